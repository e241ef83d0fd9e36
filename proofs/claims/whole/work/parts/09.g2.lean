/-! arithmetic, jumps, the stack -/
section ZG2
variable {p : Program} {l : Launch} {e : Env} {R : Room} {s : State} {m : MethodId} {args : Array Value} {below : List Frame} {meth : Method} {c : Code} {H : Heap} {locs : List Loc} {cells slots : Nat} {Q : State → Prop}
variable {B : Nat} {ex : Nat → Nat} {M pc pc' : Nat} {ls : Array Slot} {loc loc' st st' : List ZV} {hp hp' : ZH}
theorem zm_step_i2 {f : Int → Int → Option Int} {n : Nat} (h : zm_i2 f n loc st hp = some (.inl (pc', loc', st', hp'))) : ∃ a b z r, st = vI b :: vI a :: r ∧ f a b = some z ∧ pc' = n ∧ loc' = loc ∧ st' = vI z :: r ∧ hp' = hp := by
  unfold zm_i2 at h
  split at h
  next b a r =>
    split at h
    next z hz =>
      obtain ⟨rfl, rfl, rfl, rfl⟩ := zm_zn h
      exact ⟨a, b, z, r, rfl, hz, rfl, rfl, rfl, rfl⟩
    next => cases h
  next => cases h
theorem zm_step_j2 {f : Int → Int → Option Int} {n : Nat} (h : zm_j2 f n loc st hp = some (.inl (pc', loc', st', hp'))) : ∃ a b z r, st = vL b :: vL a :: r ∧ f a b = some z ∧ pc' = n ∧ loc' = loc ∧ st' = vL z :: r ∧ hp' = hp := by
  unfold zm_j2 at h
  split at h
  next b a r =>
    split at h
    next z hz =>
      obtain ⟨rfl, rfl, rfl, rfl⟩ := zm_zn h
      exact ⟨a, b, z, r, rfl, hz, rfl, rfl, rfl, rfl⟩
    next => cases h
  next => cases h
theorem zm_step_jmp {off : Int} (h : zm_jmp pc off loc st hp = some (.inl (pc', loc', st', hp'))) : (pc : Int) + off = (pc' : Int) ∧ loc' = loc ∧ st' = st ∧ hp' = hp := by
  unfold zm_jmp at h
  split at h
  next q =>
    obtain ⟨rfl, rfl, rfl, rfl⟩ := zm_zn h
    exact ⟨zm_tgt_eq q, rfl, rfl, rfl⟩
  next => cases h
set_option maxHeartbeats 4000000 in
theorem zm_g2 {ins : Instr} {len : Nat} (hx : p.tables.exec = Jvm.exec) (hb : c.code = zm_by M) (hl : zm_L B ex ls (zm_ml M) loc)
    (hd : decode (zm_by M) pc = .ok (ins, len)) (hlen : zm_len ins = 0 ∨ len = zm_len ins) (h : zm_ex2 pc loc st hp ins = some (.inl (pc', loc', st', hp')))
    (k : W p l e R s m args below meth c H locs cells slots Q (F0 m pc' ls (st'.map (zm_cv B ex)))) :
    hp' = hp ∧ loc' = loc ∧ W p l e R s m args below meth c H locs cells slots Q (F0 m pc ls (st.map (zm_cv B ex))) := by
  have fix : zm_len ins ≠ 0 → decode (zm_by M) pc = .ok (ins, zm_len ins) := fun q => by
    rcases hlen with z | z
    · exact absurd z q
    · rw [← z]; exact hd
  cases ins
  case iadd =>
    simp only [zm_ex2] at h
    obtain ⟨a, b, z, r, rfl, hz, rfl, rfl, rfl, rfl⟩ := zm_step_i2 h
    cases hz
    refine ⟨rfl, rfl, lv_iadd hx hb (fix (by simp [zm_len])) ?_⟩
    have k2 := k
    rw [List.map_cons, show zm_cv B ex (vI _) = .int _ from congrArg Value.int (zm_add a b)] at k2
    exact k2
  case isub =>
    simp only [zm_ex2] at h
    obtain ⟨a, b, z, r, rfl, hz, rfl, rfl, rfl, rfl⟩ := zm_step_i2 h
    cases hz
    refine ⟨rfl, rfl, lv_isub hx hb (fix (by simp [zm_len])) ?_⟩
    have k2 := k
    rw [List.map_cons, show zm_cv B ex (vI _) = .int _ from congrArg Value.int (zm_sub a b)] at k2
    exact k2
  case imul =>
    simp only [zm_ex2] at h
    obtain ⟨a, b, z, r, rfl, hz, rfl, rfl, rfl, rfl⟩ := zm_step_i2 h
    cases hz
    refine ⟨rfl, rfl, lv_imul hx hb (fix (by simp [zm_len])) ?_⟩
    have k2 := k
    rw [List.map_cons, show zm_cv B ex (vI _) = .int _ from congrArg Value.int (zm_mul a b)] at k2
    exact k2
  case iand =>
    simp only [zm_ex2] at h
    obtain ⟨a, b, z, r, rfl, hz, rfl, rfl, rfl, rfl⟩ := zm_step_i2 h
    cases hz
    refine ⟨rfl, rfl, lv_iand hx hb (fix (by simp [zm_len])) ?_⟩
    have k2 := k
    rw [List.map_cons, show zm_cv B ex (vI (zm_iand a b)) = .int _ from congrArg Value.int (zm_oi _)] at k2
    exact k2
  case ior =>
    simp only [zm_ex2] at h
    obtain ⟨a, b, z, r, rfl, hz, rfl, rfl, rfl, rfl⟩ := zm_step_i2 h
    cases hz
    refine ⟨rfl, rfl, lv_ior hx hb (fix (by simp [zm_len])) ?_⟩
    have k2 := k
    rw [List.map_cons, show zm_cv B ex (vI (zm_ior a b)) = .int _ from congrArg Value.int (zm_oi _)] at k2
    exact k2
  case ixor =>
    simp only [zm_ex2] at h
    obtain ⟨a, b, z, r, rfl, hz, rfl, rfl, rfl, rfl⟩ := zm_step_i2 h
    cases hz
    refine ⟨rfl, rfl, lv_ixor hx hb (fix (by simp [zm_len])) ?_⟩
    have k2 := k
    rw [List.map_cons, show zm_cv B ex (vI (zm_ixor a b)) = .int _ from congrArg Value.int (zm_oi _)] at k2
    exact k2
  case ishl =>
    simp only [zm_ex2] at h
    obtain ⟨a, b, z, r, rfl, hz, rfl, rfl, rfl, rfl⟩ := zm_step_i2 h
    cases hz
    refine ⟨rfl, rfl, lv_ishl hx hb (fix (by simp [zm_len])) ?_⟩
    have k2 := k
    rw [List.map_cons, show zm_cv B ex (vI (zm_ishl a b)) = .int _ from congrArg Value.int (zm_oi _)] at k2
    exact k2
  case ishr =>
    simp only [zm_ex2] at h
    obtain ⟨a, b, z, r, rfl, hz, rfl, rfl, rfl, rfl⟩ := zm_step_i2 h
    cases hz
    refine ⟨rfl, rfl, lv_ishr hx hb (fix (by simp [zm_len])) ?_⟩
    have k2 := k
    rw [List.map_cons, show zm_cv B ex (vI (zm_ishr a b)) = .int _ from congrArg Value.int (zm_oi _)] at k2
    exact k2
  case idiv =>
    simp only [zm_ex2] at h
    obtain ⟨a, b, z, r, rfl, hz, rfl, rfl, rfl, rfl⟩ := zm_step_i2 h
    by_cases hb0 : n32 b = 0
    · rw [if_pos hb0] at hz
      cases hz
    · rw [if_neg hb0] at hz
      cases hz
      refine ⟨rfl, rfl, lv_idiv hx hb (fix (by simp [zm_len])) (fun q => hb0 ((zm_n32_eq b 0).mp q)) ?_⟩
      have k2 := k
      rw [List.map_cons, show zm_cv B ex (vI _) = .int _ from congrArg Value.int (zm_div a b)] at k2
      exact k2
  case irem =>
    simp only [zm_ex2] at h
    obtain ⟨a, b, z, r, rfl, hz, rfl, rfl, rfl, rfl⟩ := zm_step_i2 h
    by_cases hb0 : n32 b = 0
    · rw [if_pos hb0] at hz
      cases hz
    · rw [if_neg hb0] at hz
      cases hz
      refine ⟨rfl, rfl, lv_irem hx hb (fix (by simp [zm_len])) (fun q => hb0 ((zm_n32_eq b 0).mp q)) ?_⟩
      have k2 := k
      rw [List.map_cons, show zm_cv B ex (vI _) = .int _ from congrArg Value.int (zm_rem a b)] at k2
      exact k2
  case ladd =>
    simp only [zm_ex2] at h
    obtain ⟨a, b, z, r, rfl, hz, rfl, rfl, rfl, rfl⟩ := zm_step_j2 h
    cases hz
    refine ⟨rfl, rfl, lv_ladd hx hb (fix (by simp [zm_len])) ?_⟩
    have k2 := k
    rw [List.map_cons, show zm_cv B ex (vL _) = .long _ from congrArg Value.long (zm_addL a b)] at k2
    exact k2
  case lsub =>
    simp only [zm_ex2] at h
    obtain ⟨a, b, z, r, rfl, hz, rfl, rfl, rfl, rfl⟩ := zm_step_j2 h
    cases hz
    refine ⟨rfl, rfl, lv_lsub hx hb (fix (by simp [zm_len])) ?_⟩
    have k2 := k
    rw [List.map_cons, show zm_cv B ex (vL _) = .long _ from congrArg Value.long (zm_subL a b)] at k2
    exact k2
  case lmul =>
    simp only [zm_ex2] at h
    obtain ⟨a, b, z, r, rfl, hz, rfl, rfl, rfl, rfl⟩ := zm_step_j2 h
    cases hz
    refine ⟨rfl, rfl, lv_lmul hx hb (fix (by simp [zm_len])) ?_⟩
    have k2 := k
    rw [List.map_cons, show zm_cv B ex (vL _) = .long _ from congrArg Value.long (zm_mulL a b)] at k2
    exact k2
  case lor =>
    simp only [zm_ex2] at h
    obtain ⟨a, b, z, r, rfl, hz, rfl, rfl, rfl, rfl⟩ := zm_step_j2 h
    cases hz
    refine ⟨rfl, rfl, lv_lor hx hb (fix (by simp [zm_len])) ?_⟩
    have k2 := k
    rw [List.map_cons, show zm_cv B ex (vL (zm_lor a b)) = .long _ from congrArg Value.long (zm_oj _)] at k2
    exact k2
  case ldiv =>
    simp only [zm_ex2] at h
    obtain ⟨a, b, z, r, rfl, hz, rfl, rfl, rfl, rfl⟩ := zm_step_j2 h
    by_cases hb0 : n64 b = 0
    · rw [if_pos hb0] at hz
      cases hz
    · rw [if_neg hb0] at hz
      cases hz
      refine ⟨rfl, rfl, lv_ldiv hx hb (fix (by simp [zm_len])) (fun q => hb0 (Int64.toInt_inj.mpr (show Int64.ofInt b = Int64.ofInt 0 from q))) ?_⟩
      have k2 := k
      rw [List.map_cons, show zm_cv B ex (vL _) = .long _ from congrArg Value.long (zm_divL a b)] at k2
      exact k2
  case lrem =>
    simp only [zm_ex2] at h
    obtain ⟨a, b, z, r, rfl, hz, rfl, rfl, rfl, rfl⟩ := zm_step_j2 h
    by_cases hb0 : n64 b = 0
    · rw [if_pos hb0] at hz
      cases hz
    · rw [if_neg hb0] at hz
      cases hz
      refine ⟨rfl, rfl, lv_lrem hx hb (fix (by simp [zm_len])) (fun q => hb0 (Int64.toInt_inj.mpr (show Int64.ofInt b = Int64.ofInt 0 from q))) ?_⟩
      have k2 := k
      rw [List.map_cons, show zm_cv B ex (vL _) = .long _ from congrArg Value.long (zm_remL a b)] at k2
      exact k2
  case lshl =>
    simp only [zm_ex2] at h
    split at h
    next b a r =>
      obtain ⟨rfl, rfl, rfl, rfl⟩ := zm_zn h
      exact ⟨rfl, rfl, lv_lshl hx hb (fix (by simp [zm_len])) (zm_oj _).symm k⟩
    next => cases h
  case lcmp =>
    simp only [zm_ex2] at h
    split at h
    next b a r =>
      obtain ⟨rfl, rfl, rfl, rfl⟩ := zm_zn h
      refine ⟨rfl, rfl, W.lcmp hx hb (fix (by simp [zm_len])) ?_⟩
      rw [zm_lcmp_eq]
      exact k
    next => cases h
  case i2l =>
    simp only [zm_ex2] at h
    split at h
    next a r =>
      obtain ⟨rfl, rfl, rfl, rfl⟩ := zm_zn h
      exact ⟨rfl, rfl, lv_i2l hx hb (fix (by simp [zm_len])) (zm_i2l a) k⟩
    next => cases h
  case i2b =>
    simp only [zm_ex2] at h
    split at h
    next a r =>
      obtain ⟨rfl, rfl, rfl, rfl⟩ := zm_zn h
      exact ⟨rfl, rfl, lv_i2b hx hb (fix (by simp [zm_len])) (zm_oi _).symm k⟩
    next => cases h
  case goto off =>
    simp only [zm_ex2] at h
    obtain ⟨h1, rfl, rfl, rfl⟩ := zm_step_jmp h
    exact ⟨rfl, rfl, lv_goto hx hb (fix (by simp [zm_len])) h1 k⟩
  case ifCond cnd off =>
    simp only [zm_ex2] at h
    split at h
    next a r =>
      split at h
      next h0 =>
        cases cnd
        case eq =>
          by_cases hc : zm_cmp .eq a 0 = true
          · rw [if_pos hc] at h
            obtain ⟨rfl, rfl, rfl, rfl⟩ := zm_zn h
            exact ⟨rfl, rfl, lv_if_eq hx hb (fix (by simp [zm_len])) (zm_tgt_eq h0) (fun _ => k) (fun q => absurd ((zm_n32_eq a 0).mpr (by simpa [zm_cmp] using hc)) q)⟩
          · rw [if_neg hc] at h
            obtain ⟨rfl, rfl, rfl, rfl⟩ := zm_zn h
            exact ⟨rfl, rfl, lv_if_eq hx hb (fix (by simp [zm_len])) (zm_tgt_eq h0) (fun q => absurd ((zm_n32_eq a 0).mp q) (by simpa [zm_cmp] using hc)) (fun _ => k)⟩
        case ne =>
          by_cases hc : zm_cmp .ne a 0 = true
          · rw [if_pos hc] at h
            obtain ⟨rfl, rfl, rfl, rfl⟩ := zm_zn h
            exact ⟨rfl, rfl, lv_if_ne hx hb (fix (by simp [zm_len])) (zm_tgt_eq h0) (fun _ => k) (fun q => absurd ((zm_n32_eq a 0).mp q) (by simpa [zm_cmp] using hc))⟩
          · rw [if_neg hc] at h
            obtain ⟨rfl, rfl, rfl, rfl⟩ := zm_zn h
            exact ⟨rfl, rfl, lv_if_ne hx hb (fix (by simp [zm_len])) (zm_tgt_eq h0) (fun q => absurd ((zm_n32_eq a 0).mpr (by simpa [zm_cmp] using hc)) q) (fun _ => k)⟩
        case lt =>
          by_cases hc : zm_cmp .lt a 0 = true
          · rw [if_pos hc] at h
            obtain ⟨rfl, rfl, rfl, rfl⟩ := zm_zn h
            exact ⟨rfl, rfl, lv_if_lt hx hb (fix (by simp [zm_len])) (zm_tgt_eq h0) (fun _ => k) (fun q => absurd ((zm_n32_lt a 0).mpr (by simpa [zm_cmp] using hc)) q)⟩
          · rw [if_neg hc] at h
            obtain ⟨rfl, rfl, rfl, rfl⟩ := zm_zn h
            exact ⟨rfl, rfl, lv_if_lt hx hb (fix (by simp [zm_len])) (zm_tgt_eq h0) (fun q => absurd ((zm_n32_lt a 0).mp q) (by simpa [zm_cmp] using hc)) (fun _ => k)⟩
        case ge =>
          by_cases hc : zm_cmp .ge a 0 = true
          · rw [if_pos hc] at h
            obtain ⟨rfl, rfl, rfl, rfl⟩ := zm_zn h
            exact ⟨rfl, rfl, lv_if_ge hx hb (fix (by simp [zm_len])) (zm_tgt_eq h0) (fun _ => k) (fun q => absurd ((zm_n32_le 0 a).mpr (by simpa [zm_cmp] using hc)) q)⟩
          · rw [if_neg hc] at h
            obtain ⟨rfl, rfl, rfl, rfl⟩ := zm_zn h
            exact ⟨rfl, rfl, lv_if_ge hx hb (fix (by simp [zm_len])) (zm_tgt_eq h0) (fun q => absurd ((zm_n32_le 0 a).mp q) (by simpa [zm_cmp] using hc)) (fun _ => k)⟩
        case gt =>
          by_cases hc : zm_cmp .gt a 0 = true
          · rw [if_pos hc] at h
            obtain ⟨rfl, rfl, rfl, rfl⟩ := zm_zn h
            exact ⟨rfl, rfl, lv_if_gt hx hb (fix (by simp [zm_len])) (zm_tgt_eq h0) (fun _ => k) (fun q => absurd ((zm_n32_lt 0 a).mpr (by simpa [zm_cmp] using hc)) q)⟩
          · rw [if_neg hc] at h
            obtain ⟨rfl, rfl, rfl, rfl⟩ := zm_zn h
            exact ⟨rfl, rfl, lv_if_gt hx hb (fix (by simp [zm_len])) (zm_tgt_eq h0) (fun q => absurd ((zm_n32_lt 0 a).mp q) (by simpa [zm_cmp] using hc)) (fun _ => k)⟩
        case le =>
          by_cases hc : zm_cmp .le a 0 = true
          · rw [if_pos hc] at h
            obtain ⟨rfl, rfl, rfl, rfl⟩ := zm_zn h
            exact ⟨rfl, rfl, lv_if_le hx hb (fix (by simp [zm_len])) (zm_tgt_eq h0) (fun _ => k) (fun q => absurd ((zm_n32_le a 0).mpr (by simpa [zm_cmp] using hc)) q)⟩
          · rw [if_neg hc] at h
            obtain ⟨rfl, rfl, rfl, rfl⟩ := zm_zn h
            exact ⟨rfl, rfl, lv_if_le hx hb (fix (by simp [zm_len])) (zm_tgt_eq h0) (fun q => absurd ((zm_n32_le a 0).mp q) (by simpa [zm_cmp] using hc)) (fun _ => k)⟩
      next => cases h
    next => cases h
  case if_icmp cnd off =>
    simp only [zm_ex2] at h
    split at h
    next b a r =>
      split at h
      next h0 =>
        cases cnd
        case eq =>
          by_cases hc : zm_cmp .eq a b = true
          · rw [if_pos hc] at h
            obtain ⟨rfl, rfl, rfl, rfl⟩ := zm_zn h
            exact ⟨rfl, rfl, lv_icmp_eq hx hb (fix (by simp [zm_len])) (zm_tgt_eq h0) (fun _ => k) (fun q => absurd ((zm_n32_eq a b).mpr (by simpa [zm_cmp] using hc)) q)⟩
          · rw [if_neg hc] at h
            obtain ⟨rfl, rfl, rfl, rfl⟩ := zm_zn h
            exact ⟨rfl, rfl, lv_icmp_eq hx hb (fix (by simp [zm_len])) (zm_tgt_eq h0) (fun q => absurd ((zm_n32_eq a b).mp q) (by simpa [zm_cmp] using hc)) (fun _ => k)⟩
        case ne =>
          by_cases hc : zm_cmp .ne a b = true
          · rw [if_pos hc] at h
            obtain ⟨rfl, rfl, rfl, rfl⟩ := zm_zn h
            exact ⟨rfl, rfl, lv_icmp_ne hx hb (fix (by simp [zm_len])) (zm_tgt_eq h0) (fun _ => k) (fun q => absurd ((zm_n32_eq a b).mp q) (by simpa [zm_cmp] using hc))⟩
          · rw [if_neg hc] at h
            obtain ⟨rfl, rfl, rfl, rfl⟩ := zm_zn h
            exact ⟨rfl, rfl, lv_icmp_ne hx hb (fix (by simp [zm_len])) (zm_tgt_eq h0) (fun q => absurd ((zm_n32_eq a b).mpr (by simpa [zm_cmp] using hc)) q) (fun _ => k)⟩
        case lt =>
          by_cases hc : zm_cmp .lt a b = true
          · rw [if_pos hc] at h
            obtain ⟨rfl, rfl, rfl, rfl⟩ := zm_zn h
            exact ⟨rfl, rfl, lv_icmp_lt hx hb (fix (by simp [zm_len])) (zm_tgt_eq h0) (fun _ => k) (fun q => absurd ((zm_n32_lt a b).mpr (by simpa [zm_cmp] using hc)) q)⟩
          · rw [if_neg hc] at h
            obtain ⟨rfl, rfl, rfl, rfl⟩ := zm_zn h
            exact ⟨rfl, rfl, lv_icmp_lt hx hb (fix (by simp [zm_len])) (zm_tgt_eq h0) (fun q => absurd ((zm_n32_lt a b).mp q) (by simpa [zm_cmp] using hc)) (fun _ => k)⟩
        case ge =>
          by_cases hc : zm_cmp .ge a b = true
          · rw [if_pos hc] at h
            obtain ⟨rfl, rfl, rfl, rfl⟩ := zm_zn h
            exact ⟨rfl, rfl, lv_icmp_ge hx hb (fix (by simp [zm_len])) (zm_tgt_eq h0) (fun _ => k) (fun q => absurd ((zm_n32_le b a).mpr (by simpa [zm_cmp] using hc)) q)⟩
          · rw [if_neg hc] at h
            obtain ⟨rfl, rfl, rfl, rfl⟩ := zm_zn h
            exact ⟨rfl, rfl, lv_icmp_ge hx hb (fix (by simp [zm_len])) (zm_tgt_eq h0) (fun q => absurd ((zm_n32_le b a).mp q) (by simpa [zm_cmp] using hc)) (fun _ => k)⟩
        case gt =>
          by_cases hc : zm_cmp .gt a b = true
          · rw [if_pos hc] at h
            obtain ⟨rfl, rfl, rfl, rfl⟩ := zm_zn h
            exact ⟨rfl, rfl, lv_icmp_gt hx hb (fix (by simp [zm_len])) (zm_tgt_eq h0) (fun _ => k) (fun q => absurd ((zm_n32_lt b a).mpr (by simpa [zm_cmp] using hc)) q)⟩
          · rw [if_neg hc] at h
            obtain ⟨rfl, rfl, rfl, rfl⟩ := zm_zn h
            exact ⟨rfl, rfl, lv_icmp_gt hx hb (fix (by simp [zm_len])) (zm_tgt_eq h0) (fun q => absurd ((zm_n32_lt b a).mp q) (by simpa [zm_cmp] using hc)) (fun _ => k)⟩
        case le =>
          by_cases hc : zm_cmp .le a b = true
          · rw [if_pos hc] at h
            obtain ⟨rfl, rfl, rfl, rfl⟩ := zm_zn h
            exact ⟨rfl, rfl, lv_icmp_le hx hb (fix (by simp [zm_len])) (zm_tgt_eq h0) (fun _ => k) (fun q => absurd ((zm_n32_le a b).mpr (by simpa [zm_cmp] using hc)) q)⟩
          · rw [if_neg hc] at h
            obtain ⟨rfl, rfl, rfl, rfl⟩ := zm_zn h
            exact ⟨rfl, rfl, lv_icmp_le hx hb (fix (by simp [zm_len])) (zm_tgt_eq h0) (fun q => absurd ((zm_n32_le a b).mp q) (by simpa [zm_cmp] using hc)) (fun _ => k)⟩
      next => cases h
    next => cases h
  case tableswitch dflt lo hi offs =>
    simp only [zm_ex2] at h
    split at h
    next a r =>
      split at h
      next h0 =>
        obtain ⟨h1, rfl, rfl, rfl⟩ := zm_step_jmp h
        exact ⟨rfl, rfl, lv_tableOut hx hb hd h0 h1 k⟩
      next h0 =>
        split at h
        next off ho =>
          obtain ⟨h1, rfl, rfl, rfl⟩ := zm_step_jmp h
          exact ⟨rfl, rfl, lv_tableIn hx hb hd (fun q => h0 (Or.inl q)) (fun q => h0 (Or.inr q)) ho h1 k⟩
        next => cases h
    next => cases h
  case dup =>
    simp only [zm_ex2] at h
    split at h
    next v r =>
      split at h
      next h0 =>
        obtain ⟨rfl, rfl, rfl, rfl⟩ := zm_zn h
        exact ⟨rfl, rfl, lv_dup hx hb (fix (by simp [zm_len])) (zm_cv_cat1 h0) k⟩
      next => cases h
    next => cases h
  case pop =>
    simp only [zm_ex2] at h
    split at h
    next v r =>
      split at h
      next h0 =>
        obtain ⟨rfl, rfl, rfl, rfl⟩ := zm_zn h
        exact ⟨rfl, rfl, lv_pop hx hb (fix (by simp [zm_len])) (zm_cv_cat1 h0) k⟩
      next => cases h
    next => cases h
  case dup2 =>
    simp only [zm_ex2] at h
    split at h
    next v w r =>
      split at h
      next h0 =>
        obtain ⟨rfl, rfl, rfl, rfl⟩ := zm_zn h
        exact ⟨rfl, rfl, lv_dup2_11 hx hb (fix (by simp [zm_len])) (zm_cv_cat1 h0.1) (zm_cv_cat1 h0.2) k⟩
      next => cases h
    next => cases h
  all_goals (simp [zm_ex2] at h)
end ZG2

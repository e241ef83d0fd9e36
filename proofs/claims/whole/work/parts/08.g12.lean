/-! steps that leave the heap as it is -/
section ZG
variable {p : Program} {l : Launch} {e : Env} {R : Room} {s : State} {m : MethodId} {args : Array Value} {below : List Frame} {meth : Method} {c : Code} {H : Heap} {locs : List Loc} {cells slots : Nat} {Q : State → Prop}
variable {B : Nat} {ex : Nat → Nat} {M pc pc' : Nat} {ls : Array Slot} {loc loc' st st' : List ZV} {hp hp' : ZH}
theorem zm_zn {a pc' : Nat} {b c loc' st' : List ZV} {d hp' : ZH} (h : zn a b c d = some (.inl (pc', loc', st', hp'))) : a = pc' ∧ b = loc' ∧ c = st' ∧ d = hp' := by
  simpa using h
theorem zm_step_li {i n : Nat} (hl : zm_L B ex ls (zm_ml M) loc) (h : zm_li loc i n st hp = some (.inl (pc', loc', st', hp'))) : ∃ z, ls[i]? = some (.val (.int (Int32.ofInt z))) ∧ pc' = n ∧ loc' = loc ∧ st' = vI z :: st ∧ hp' = hp := by
  unfold zm_li at h
  split at h
  next z hz =>
    obtain ⟨rfl, rfl, rfl, rfl⟩ := zm_zn h
    exact ⟨z, hl.at hz (by simp), rfl, rfl, rfl, rfl⟩
  next => cases h
theorem zm_step_ll {i n : Nat} (hl : zm_L B ex ls (zm_ml M) loc) (h : zm_ll loc i n st hp = some (.inl (pc', loc', st', hp'))) : ∃ z, ls[i]? = some (.val (.long (Int64.ofInt z))) ∧ pc' = n ∧ loc' = loc ∧ st' = vL z :: st ∧ hp' = hp := by
  unfold zm_ll at h
  split at h
  next z hz =>
    obtain ⟨rfl, rfl, rfl, rfl⟩ := zm_zn h
    exact ⟨z, hl.at hz (by simp), rfl, rfl, rfl, rfl⟩
  next => cases h
theorem zm_step_la {i n : Nat} (hl : zm_L B ex ls (zm_ml M) loc) (h : zm_la loc i n st hp = some (.inl (pc', loc', st', hp'))) : ∃ a v, zm_cv B ex v = .ref a ∧ ls[i]? = some (.val (.ref a)) ∧ pc' = n ∧ loc' = loc ∧ st' = v :: st ∧ hp' = hp := by
  unfold zm_la at h
  split at h
  next o hz =>
    obtain ⟨rfl, rfl, rfl, rfl⟩ := zm_zn h
    exact ⟨B + o, vR o, rfl, hl.at hz (by simp), rfl, rfl, rfl, rfl⟩
  next o hz =>
    obtain ⟨rfl, rfl, rfl, rfl⟩ := zm_zn h
    exact ⟨ex o, vX o, rfl, hl.at hz (by simp), rfl, rfl, rfl, rfl⟩
  next => cases h
theorem zm_step_si {i n : Nat} (h : zm_si loc i n st hp = some (.inl (pc', loc', st', hp'))) : ∃ z, st = vI z :: st' ∧ zm_s1 loc i (vI z) = some loc' ∧ pc' = n ∧ hp' = hp := by
  unfold zm_si at h
  split at h
  next z r =>
    split at h
    next l1 hs =>
      obtain ⟨rfl, rfl, rfl, rfl⟩ := zm_zn h
      exact ⟨z, rfl, hs, rfl, rfl⟩
    next => cases h
  next => cases h
theorem zm_step_sl {i n : Nat} (h : zm_sl loc i n st hp = some (.inl (pc', loc', st', hp'))) : ∃ z, st = vL z :: st' ∧ zm_s2 loc i (vL z) = some loc' ∧ pc' = n ∧ hp' = hp := by
  unfold zm_sl at h
  split at h
  next z r =>
    split at h
    next l1 hs =>
      obtain ⟨rfl, rfl, rfl, rfl⟩ := zm_zn h
      exact ⟨z, rfl, hs, rfl, rfl⟩
    next => cases h
  next => cases h
theorem zm_step_sa {i n : Nat} (h : zm_sa loc i n st hp = some (.inl (pc', loc', st', hp'))) : ∃ a v, zm_cv B ex v = .ref a ∧ st = v :: st' ∧ zm_s1 loc i v = some loc' ∧ pc' = n ∧ hp' = hp := by
  unfold zm_sa at h
  split at h
  next o r =>
    split at h
    next l1 hs =>
      obtain ⟨rfl, rfl, rfl, rfl⟩ := zm_zn h
      exact ⟨B + o, vR o, rfl, rfl, hs, rfl, rfl⟩
    next => cases h
  next o r =>
    split at h
    next l1 hs =>
      obtain ⟨rfl, rfl, rfl, rfl⟩ := zm_zn h
      exact ⟨ex o, vX o, rfl, rfl, hs, rfl, rfl⟩
    next => cases h
  next => cases h
set_option maxHeartbeats 4000000 in
theorem zm_g1 {ins : Instr} (hx : p.tables.exec = Jvm.exec) (hb : c.code = zm_by M) (hown : s.vm.findClass (zm_cnm M) = some m.cls) (hts : ∀ w ∈ zm_TW, w.before args s = true)
    (hstr : ∀ i k, zm_find zm_skT (zm_oc M) i = some k → ∃ tx, vk_R (zm_cnm M) i tx (ex k) s) (hl : zm_L B ex ls (zm_ml M) loc)
    (hd : decode (zm_by M) pc = .ok (ins, zm_len ins)) (h : zm_ex1 M pc loc st hp ins = some (.inl (pc', loc', st', hp')))
    (k : ∀ ls', zm_L B ex ls' (zm_ml M) loc' → W p l e R s m args below meth c H locs cells slots Q (F0 m pc' ls' (st'.map (zm_cv B ex)))) :
    hp' = hp ∧ W p l e R s m args below meth c H locs cells slots Q (F0 m pc ls (st.map (zm_cv B ex))) := by
  cases ins
  case iconst n =>
    obtain ⟨rfl, rfl, rfl, rfl⟩ := zm_zn h
    exact ⟨rfl, lv_iconst hx hb hd rfl (k ls hl)⟩
  case bipush n =>
    obtain ⟨rfl, rfl, rfl, rfl⟩ := zm_zn h
    exact ⟨rfl, lv_bipush hx hb hd (zm_i8 _) (k ls hl)⟩
  case sipush n =>
    obtain ⟨rfl, rfl, rfl, rfl⟩ := zm_zn h
    exact ⟨rfl, lv_sipush hx hb hd (zm_i16 _) (k ls hl)⟩
  case lconst n =>
    obtain ⟨rfl, rfl, rfl, rfl⟩ := zm_zn h
    exact ⟨rfl, lv_lconst hx hb hd rfl (k ls hl)⟩
  case ldc i =>
    simp only [zm_ex1] at h
    split at h
    next k0 z hf =>
      split at h
      next hk =>
        subst hk
        obtain ⟨rfl, rfl, rfl, rfl⟩ := zm_zn h
        exact ⟨rfl, lv_ldc hx hb hown (hts _ ((zm_kc_word hf).1 rfl)) hd (k ls hl)⟩
      next => cases h
    next hf =>
      split at h
      next k0 hk =>
        obtain ⟨rfl, rfl, rfl, rfl⟩ := zm_zn h
        obtain ⟨tx, htx⟩ := hstr i k0 hk
        exact ⟨rfl, va_ldcS hx hb hown htx hd (k ls hl)⟩
      next => cases h
  case ldc_w i =>
    simp only [zm_ex1] at h
    split at h
    next k0 z hf =>
      split at h
      next hk =>
        subst hk
        obtain ⟨rfl, rfl, rfl, rfl⟩ := zm_zn h
        exact ⟨rfl, lv_ldcw hx hb hown (hts _ ((zm_kc_word hf).1 rfl)) hd (k ls hl)⟩
      next => cases h
    next => cases h
  case ldc2_w i =>
    simp only [zm_ex1] at h
    split at h
    next k0 z hf =>
      split at h
      next hk =>
        subst hk
        obtain ⟨rfl, rfl, rfl, rfl⟩ := zm_zn h
        exact ⟨rfl, lv_ldc2 hx hb hown (hts _ ((zm_kc_word hf).2 rfl)) hd (k ls hl)⟩
      next => cases h
    next => cases h
  case iload_n i =>
    obtain ⟨z, h1, rfl, rfl, rfl, rfl⟩ := zm_step_li hl h
    exact ⟨rfl, lv_iload_n hx hb hd rfl h1 (k ls hl)⟩
  case iload i =>
    obtain ⟨z, h1, rfl, rfl, rfl, rfl⟩ := zm_step_li hl h
    exact ⟨rfl, lv_iload hx hb hd h1 (k ls hl)⟩
  case lload_n i =>
    obtain ⟨z, h1, rfl, rfl, rfl, rfl⟩ := zm_step_ll hl h
    exact ⟨rfl, lv_lload_n hx hb hd rfl h1 (k ls hl)⟩
  case lload i =>
    obtain ⟨z, h1, rfl, rfl, rfl, rfl⟩ := zm_step_ll hl h
    exact ⟨rfl, lv_lload hx hb hd h1 (k ls hl)⟩
  case aload_n i =>
    obtain ⟨a, v, h0, h1, rfl, rfl, rfl, rfl⟩ := zm_step_la hl h
    refine ⟨rfl, lv_aload_n hx hb hd rfl h1 ?_⟩
    have k2 := k ls hl
    rw [List.map_cons, h0] at k2
    exact k2
  case aload i =>
    obtain ⟨a, v, h0, h1, rfl, rfl, rfl, rfl⟩ := zm_step_la hl h
    refine ⟨rfl, lv_aload hx hb hd h1 ?_⟩
    have k2 := k ls hl
    rw [List.map_cons, h0] at k2
    exact k2
  case istore_n i =>
    obtain ⟨z, rfl, h1, rfl, rfl⟩ := zm_step_si h
    exact ⟨rfl, lv_istore_n hx hb hd rfl hl.has (by rw [← hl.2.2.1]; exact zm_s1_lt h1) rfl (fun ls' hl' => k ls' (hl.s1 h1 hl'))⟩
  case istore i =>
    obtain ⟨z, rfl, h1, rfl, rfl⟩ := zm_step_si h
    exact ⟨rfl, lv_istore hx hb hd hl.has (by rw [← hl.2.2.1]; exact zm_s1_lt h1) rfl (fun ls' hl' => k ls' (hl.s1 h1 hl'))⟩
  case lstore_n i =>
    obtain ⟨z, rfl, h1, rfl, rfl⟩ := zm_step_sl h
    exact ⟨rfl, lv_lstore_n hx hb hd rfl hl.has (by rw [← hl.2.2.1]; exact zm_s2_lt h1) rfl (fun ls' hl' => k ls' (hl.s2 h1 hl'))⟩
  case lstore i =>
    obtain ⟨z, rfl, h1, rfl, rfl⟩ := zm_step_sl h
    exact ⟨rfl, lv_lstore hx hb hd hl.has (by rw [← hl.2.2.1]; exact zm_s2_lt h1) rfl (fun ls' hl' => k ls' (hl.s2 h1 hl'))⟩
  case astore_n i =>
    obtain ⟨a, v, h0, rfl, h1, rfl, rfl⟩ := zm_step_sa (B := B) (ex := ex) h
    refine ⟨rfl, ?_⟩
    rw [List.map_cons, h0]
    refine lv_astore_n hx hb hd rfl hl.has (by rw [← hl.2.2.1]; exact zm_s1_lt h1) rfl (fun ls' hl' => k ls' (hl.s1 h1 ?_))
    rw [h0]
    exact hl'
  case astore i =>
    obtain ⟨a, v, h0, rfl, h1, rfl, rfl⟩ := zm_step_sa (B := B) (ex := ex) h
    refine ⟨rfl, ?_⟩
    rw [List.map_cons, h0]
    refine lv_astore hx hb hd hl.has (by rw [← hl.2.2.1]; exact zm_s1_lt h1) rfl (fun ls' hl' => k ls' (hl.s1 h1 ?_))
    rw [h0]
    exact hl'
  case iinc i n =>
    simp only [zm_ex1] at h
    split at h
    next z hz =>
      split at h
      next l1 hs =>
        obtain ⟨rfl, rfl, rfl, rfl⟩ := zm_zn h
        obtain ⟨kk, hk⟩ := List.getElem?_of_mem (zm_lvl_mem.mpr ⟨vI z, hz, by simp, rfl⟩ : (i, zm_cv B ex (vI z)) ∈ zm_lvl B ex loc)
        exact ⟨rfl, lv_iinc hx hb hd hl.has hk (zm_add z n).symm (by rw [← hl.2.2.1]; exact zm_s1_lt hs) rfl (fun ls' hl' => k ls' (hl.s1 hs hl'))⟩
      next => cases h
    next => cases h
  all_goals (simp [zm_ex1] at h)
end ZG

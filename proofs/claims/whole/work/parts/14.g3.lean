/-! steps on the heap, and all steps together -/
section ZT
variable {dC : Nat → ClassId} {dI : Nat → Nat → Nat} {cy : Nat → ClassId} {B : Nat} {ex : Nat → Nat} {X : Nat × (Nat → Int)} {d M : Nat}
variable {p : Program} {l : Launch} {e : Env} {R : Room} {s : State} {m : MethodId} {args : Array Value} {below : List Frame} {meth : Method} {c : Code} {H : Heap} {locs : List Loc} {cells slots : Nat} {Q : State → Prop}
variable {pc pc' : Nat} {ls : Array Slot} {loc loc' st st' : List ZV} {hp hp' : ZH}
theorem zm_isI_ok {M ci : Nat} (h : zm_isI M ci = true) : zm_nm M = "<init>" ∧ zm_cnm M = zm_cn.getD ci "" := by
  unfold zm_isI at h
  split at h
  next e0 he =>
    simp only [Bool.and_eq_true, decide_eq_true_eq] at h
    refine ⟨by simp only [zm_nm, he]; exact h.1, ?_⟩
    simp only [zm_cnm, zm_oc, he]
    rw [h.2]
  next => cases h
set_option maxHeartbeats 4000000 in
theorem zm_g3 {ins : Instr} (hSR : zm_SR) (C : zm_Cx dC dI cy B ex X d M p R s m args meth c) (S : zm_St dC dI cy B ex s M hp loc H locs ls)
    (hd : decode (zm_by M) pc = .ok (ins, zm_len ins)) (h : zm_ex3 X M pc loc st hp ins = some (.inl (pc', loc', st', hp')))
    (hc0 : cells + (hp'.1.length - hp.1.length) ≤ R.cells) (hs0 : slots + (zm_ns hp'.1 - zm_ns hp.1) ≤ R.slots)
    (k : ∀ H' locs' ls', zm_St dC dI cy B ex s M hp' loc' H' locs' ls' → W p l e R s m args below meth c H' locs' (cells + (hp'.1.length - hp.1.length)) (slots + (zm_ns hp'.1 - zm_ns hp.1)) Q (F0 m pc' ls' (st'.map (zm_cv B ex)))) :
    (∃ t, hp'.1 = hp.1 ++ t) ∧ W p l e R s m args below meth c H locs cells slots Q (F0 m pc ls (st.map (zm_cv B ex))) := by
  obtain ⟨hx, hb, hml, hown, hts, hK, hBs, hnm, hfr, hlo, hE⟩ := id C
  obtain ⟨hW, hS, hl⟩ := id S
  have same : hp'.1 = hp.1 → (∃ t, hp'.1 = hp.1 ++ t) ∧ cells ≤ R.cells ∧ slots ≤ R.slots ∧ ∀ H' locs' ls', zm_St dC dI cy B ex s M hp' loc' H' locs' ls' → W p l e R s m args below meth c H' locs' cells slots Q (F0 m pc' ls' (st'.map (zm_cv B ex))) := fun q => by
    rw [q] at hc0 hs0 k
    simp only [Nat.sub_self, Nat.add_zero] at hc0 hs0 k
    exact ⟨⟨[], by rw [q]; simp⟩, hc0, hs0, k⟩
  cases ins
  case getfield i =>
    simp only [zm_ex3] at h
    split at h
    next o r =>
      split at h
      next ci kf hf =>
        split at h
        next ho =>
          obtain ⟨rfl, rfl, rfl, rfl⟩ := zm_zn h
          obtain ⟨q1, q2, q3, k⟩ := same rfl
          exact ⟨q1, zm_r_get hx hb hts hown hK hW (zm_fk_word hf) ho hd (k H locs ls S)⟩
        next => cases h
      next => cases h
    next => cases h
  case putfield i =>
    simp only [zm_ex3] at h
    split at h
    next v o r =>
      split at h
      next ci kf hf =>
        split at h
        next ho =>
          split at h
          next z hz =>
            obtain ⟨rfl, rfl, rfl, rfl⟩ := zm_zn h
            obtain ⟨q1, q2, q3, k⟩ := same rfl
            refine ⟨q1, zm_r_put (M := M) hx hb hts hown hK hW hS (zm_fk_word hf) ho.1 hz ?_ hd (fun H1 locs1 w1 w2 => k H1 locs1 ls ⟨w1, w2, hl⟩)⟩
            rcases ho.2 with g | g
            · exact Or.inl g
            · obtain ⟨g1, g2⟩ := zm_isI_ok g
              exact Or.inr ⟨by rw [hnm.1]; exact g1, g2⟩
          next => cases h
        next => cases h
      next => cases h
    next => cases h
  case iaload =>
    simp only [zm_ex3] at h
    split at h
    next i o r =>
      split at h
      next z hz =>
        obtain ⟨rfl, rfl, rfl, rfl⟩ := zm_zn h
        obtain ⟨q1, q2, q3, k⟩ := same rfl
        obtain ⟨n, g1, g2, rfl⟩ := zm_ld_ok hz
        exact ⟨q1, va_iald hx hb hK (zm_one (hW.arr g1 (by decide) (by decide))) 0 0 rfl rfl (zm_inb_in g2) hd (k H locs ls S)⟩
      next => cases h
    next i k0 r =>
      split at h
      next hc =>
        obtain ⟨rfl, hc⟩ := hc
        obtain ⟨rfl, rfl, rfl, rfl⟩ := zm_zn h
        obtain ⟨q1, q2, q3, k⟩ := same rfl
        obtain ⟨-, -, -, -, -, -, xs, h7, h8, h9, h10, h11, h12⟩ := hE
        refine ⟨q1, va_sld hx hb h7 h11 (fun q => by omega) hS (zm_inb_in hc) hd ?_⟩
        have k2 := k H locs ls S
        have hlt : (n32 i).toNat < X.1 := by
          simp [zm_inb] at hc
          omega
        rw [List.map_cons, h8 _ hlt] at k2
        have e : zm_cv B ex (vI (xs (n32 i).toNat).toInt) = .int (xs (n32 i).toNat) := congrArg Value.int (zm_oi _)
        rw [e] at k2
        exact k2
      next => cases h
    next => cases h
  case baload =>
    simp only [zm_ex3] at h
    split at h
    next i o r =>
      split at h
      next z hz =>
        obtain ⟨rfl, rfl, rfl, rfl⟩ := zm_zn h
        obtain ⟨q1, q2, q3, k⟩ := same rfl
        obtain ⟨n, g1, g2, rfl⟩ := zm_ld_ok hz
        exact ⟨q1, va_bald hx hb hK (zm_one (hW.arr g1 (by decide) (by decide))) 0 1 rfl rfl (zm_inb_in g2) hd (k H locs ls S)⟩
      next =>
        split at h
        next z hz =>
          obtain ⟨rfl, rfl, rfl, rfl⟩ := zm_zn h
          obtain ⟨q1, q2, q3, k⟩ := same rfl
          obtain ⟨n, g1, g2, rfl⟩ := zm_ld_ok hz
          exact ⟨q1, va_zald hx hb hK (zm_one (hW.arr g1 (by decide) (by decide))) 0 2 rfl rfl (zm_inb_in g2) hd (k H locs ls S)⟩
        next => cases h
    next => cases h
  case laload =>
    simp only [zm_ex3] at h
    split at h
    next i o r =>
      split at h
      next z hz =>
        obtain ⟨rfl, rfl, rfl, rfl⟩ := zm_zn h
        obtain ⟨q1, q2, q3, k⟩ := same rfl
        obtain ⟨n, g1, g2, rfl⟩ := zm_ld_ok hz
        exact ⟨q1, va_lald hx hb hK (zm_one (hW.arrL g1)) 0 3 rfl rfl (zm_inb_in g2) hd (k H locs ls S)⟩
      next => cases h
    next => cases h
  case iastore =>
    simp only [zm_ex3] at h
    split at h
    next z i o r =>
      split at h
      next h1 hz =>
        obtain ⟨rfl, rfl, rfl, rfl⟩ := zm_zn h
        obtain ⟨n, g1, g2, rfl⟩ := zm_stt_ok hz
        obtain ⟨q1, q2, q3, k⟩ := same rfl
        exact ⟨q1, zm_r_iast hx hb hK hW hS g1 g2 hd (fun H1 locs1 w1 w2 => k H1 locs1 ls ⟨w1, w2, hl⟩)⟩
      next => cases h
    next => cases h
  case bastore =>
    simp only [zm_ex3] at h
    split at h
    next z i o r =>
      split at h
      next h1 hz =>
        obtain ⟨rfl, rfl, rfl, rfl⟩ := zm_zn h
        obtain ⟨n, g1, g2, rfl⟩ := zm_stt_ok hz
        obtain ⟨q1, q2, q3, k⟩ := same rfl
        exact ⟨q1, zm_r_bast hx hb hK hW hS g1 g2 hd (fun H1 locs1 w1 w2 => k H1 locs1 ls ⟨w1, w2, hl⟩)⟩
      next =>
        split at h
        next h1 hz =>
          obtain ⟨rfl, rfl, rfl, rfl⟩ := zm_zn h
          obtain ⟨n, g1, g2, rfl⟩ := zm_stt_ok hz
          obtain ⟨q1, q2, q3, k⟩ := same rfl
          exact ⟨q1, zm_r_zast hx hb hK hW hS g1 g2 hd (fun H1 locs1 w1 w2 => k H1 locs1 ls ⟨w1, w2, hl⟩)⟩
        next => cases h
    next => cases h
  case lastore =>
    simp only [zm_ex3] at h
    split at h
    next z i o r =>
      split at h
      next h1 hz =>
        obtain ⟨rfl, rfl, rfl, rfl⟩ := zm_zn h
        obtain ⟨n, g1, g2, rfl⟩ := zm_stt_ok hz
        obtain ⟨q1, q2, q3, k⟩ := same rfl
        exact ⟨q1, zm_r_last hx hb hK hW hS g1 g2 hd (fun H1 locs1 w1 w2 => k H1 locs1 ls ⟨w1, w2, hl⟩)⟩
      next => cases h
    next => cases h
  case arraylength =>
    simp only [zm_ex3] at h
    split at h
    next o r =>
      split at h
      next t n ho =>
        split at h
        next ht =>
          obtain ⟨rfl, rfl, rfl, rfl⟩ := zm_zn h
          obtain ⟨q1, q2, q3, k⟩ := same rfl
          refine ⟨q1, ?_⟩
          have e : ∀ n : Nat, Int32.ofNat n = Int32.ofInt (n : Int) := fun n => (Int32.ofInt_eq_ofNat ..).symm
          rcases (show t = 20 ∨ t = 21 ∨ t = 22 ∨ t = 23 by omega) with rfl | rfl | rfl | rfl
          · exact va_alen hx hb hK (zm_one (hW.arr ho (by decide) (by decide))) 0 0 rfl rfl (e n) hd (k H locs ls S)
          · exact va_alen hx hb hK (zm_one (hW.arr ho (by decide) (by decide))) 0 1 rfl rfl (e n) hd (k H locs ls S)
          · exact va_alen hx hb hK (zm_one (hW.arr ho (by decide) (by decide))) 0 2 rfl rfl (e n) hd (k H locs ls S)
          · exact va_alen hx hb hK (zm_one (hW.arrL ho)) 0 3 rfl rfl (e n) hd (k H locs ls S)
        next => cases h
      next => cases h
    next k0 r =>
      split at h
      next hc =>
        subst hc
        obtain ⟨rfl, rfl, rfl, rfl⟩ := zm_zn h
        obtain ⟨q1, q2, q3, k⟩ := same rfl
        obtain ⟨-, -, -, -, -, -, xs, h7, h8, h9, h10, h11, h12⟩ := hE
        refine ⟨q1, va_slen hx hb h7 h11 (fun q => by omega) hS hd ?_⟩
        have e : ∀ n : Nat, Int32.ofNat n = Int32.ofInt (n : Int) := fun n => (Int32.ofInt_eq_ofNat ..).symm
        rw [e]
        exact k H locs ls S
      next => cases h
    next => cases h
  case newarray t =>
    simp only [zm_ex3] at h
    split at h
    next n r =>
      split at h
      next hc =>
        obtain ⟨rfl, rfl, rfl, rfl⟩ := zm_zn h
        simp only [List.length_append, List.length_cons, List.length_nil, zm_ns_app] at hc0 hs0 k
        refine ⟨⟨_, rfl⟩, zm_r_newa hx hb hts hK hW hS hc.2 hc.1.1 hc.1.2.1 hc.1.2.2.1 hc.1.2.2.2 hd (by omega) (by omega) (fun H1 w1 w2 => ?_)⟩
        have k2 := k H1 locs ls ⟨w1, w2, hl⟩
        rw [show hp.1.length + (0 + 1) - hp.1.length = 1 by omega, show zm_ns hp.1 + (n32 n).toNat - zm_ns hp.1 = (n32 n).toNat by omega] at k2
        exact k2
      next => cases h
    next => cases h
  case new i =>
    simp only [zm_ex3] at h
    split at h
    next ci hf =>
      split at h
      next h30 =>
        obtain ⟨rfl, rfl, rfl, rfl⟩ := zm_zn h
        simp only [List.length_append, List.length_cons, List.length_nil, zm_ns_app] at hc0 hs0 k
        refine ⟨⟨_, rfl⟩, zm_r_new hx hb hts hown hK hW hS h30 (zm_ck_word hf) hd (by omega) (by omega) (fun H1 w1 w2 => ?_)⟩
        have k2 := k H1 locs ls ⟨w1, w2, hl⟩
        rw [show hp.1.length + (0 + 1) - hp.1.length = 1 by omega, show zm_ns hp.1 + zm_nF ci - zm_ns hp.1 = zm_nF ci by omega] at k2
        exact k2
      next => cases h
    next =>
      split at h <;> cases h
  case invokevirtual i =>
    simp only [zm_ex3] at h
    have he : hp'.1 = hp.1 := (zm_inv_step (op := 0) (cells := 0) (slots := 0) (Q := fun _ => True) (H := H) (locs := locs) (ls := ls) (l := l) (e := e) (below := below) (pc := pc) hSR C S ⟨fun _ => hd, (fun q => absurd q (by decide)), (fun q => absurd q (by decide))⟩ h (Nat.zero_le _) (Nat.zero_le _) (fun H' locs' ls' _ T hT X => ⟨_, Steps.refl _, trivial⟩)).1
    obtain ⟨q1, q2, q3, k⟩ := same he
    exact ⟨q1, (zm_inv_step (op := 0) hSR C S ⟨fun _ => hd, (fun q => absurd q (by decide)), (fun q => absurd q (by decide))⟩ h q2 q3 k).2⟩
  case invokestatic i =>
    simp only [zm_ex3] at h
    have he : hp'.1 = hp.1 := (zm_inv_step (op := 1) (cells := 0) (slots := 0) (Q := fun _ => True) (H := H) (locs := locs) (ls := ls) (l := l) (e := e) (below := below) (pc := pc) hSR C S ⟨(fun q => absurd q (by decide)), fun _ => hd, (fun q => absurd q (by decide))⟩ h (Nat.zero_le _) (Nat.zero_le _) (fun H' locs' ls' _ T hT X => ⟨_, Steps.refl _, trivial⟩)).1
    obtain ⟨q1, q2, q3, k⟩ := same he
    exact ⟨q1, (zm_inv_step (op := 1) hSR C S ⟨(fun q => absurd q (by decide)), fun _ => hd, (fun q => absurd q (by decide))⟩ h q2 q3 k).2⟩
  case invokespecial i =>
    simp only [zm_ex3] at h
    have he : hp'.1 = hp.1 := (zm_inv_step (op := 2) (cells := 0) (slots := 0) (Q := fun _ => True) (H := H) (locs := locs) (ls := ls) (l := l) (e := e) (below := below) (pc := pc) hSR C S ⟨(fun q => absurd q (by decide)), (fun q => absurd q (by decide)), fun _ => hd⟩ h (Nat.zero_le _) (Nat.zero_le _) (fun H' locs' ls' _ T hT X => ⟨_, Steps.refl _, trivial⟩)).1
    obtain ⟨q1, q2, q3, k⟩ := same he
    exact ⟨q1, (zm_inv_step (op := 2) hSR C S ⟨(fun q => absurd q (by decide)), (fun q => absurd q (by decide)), fun _ => hd⟩ h q2 q3 k).2⟩
  case ireturn =>
    simp only [zm_ex3] at h
    split at h
    next =>
      split at h
      · cases h
      · split at h <;> cases h
      · cases h
    next => cases h
  case lreturn =>
    simp only [zm_ex3] at h
    split at h
    next => split at h <;> cases h
    next => cases h
  case return_ =>
    simp only [zm_ex3] at h
    split at h
    next => split at h <;> cases h
    next => cases h
  all_goals (simp [zm_ex3] at h)
/-- a step that goes on in the same frame -/
theorem zm_step (hSR : zm_SR) (C : zm_Cx dC dI cy B ex X d M p R s m args meth c) (S : zm_St dC dI cy B ex s M hp loc H locs ls)
    (h : zm_stp X M (pc, loc, st, hp) = some (.inl (pc', loc', st', hp')))
    (hc0 : cells + (hp'.1.length - hp.1.length) ≤ R.cells) (hs0 : slots + (zm_ns hp'.1 - zm_ns hp.1) ≤ R.slots)
    (k : ∀ H' locs' ls', zm_St dC dI cy B ex s M hp' loc' H' locs' ls' → W p l e R s m args below meth c H' locs' (cells + (hp'.1.length - hp.1.length)) (slots + (zm_ns hp'.1 - zm_ns hp.1)) Q (F0 m pc' ls' (st'.map (zm_cv B ex)))) :
    (∃ t, hp'.1 = hp.1 ++ t) ∧ W p l e R s m args below meth c H locs cells slots Q (F0 m pc ls (st.map (zm_cv B ex))) := by
  obtain ⟨hx, hb, hml, hown, hts, hK, hBs, hnm, hfr, hlo, hE⟩ := id C
  obtain ⟨hW, hS, hl⟩ := id S
  unfold zm_stp at h
  split at h
  next => cases h
  next ins len hins =>
    have hd : decode (zm_by M) pc = .ok (ins, len) := by
      unfold zm_ins at hins
      split at hins
      next q => rw [q]; exact congrArg _ (Option.some.inj hins)
      next => cases hins
    split at h
    next hlen =>
      unfold zm_ex at h
      have stay : hp' = hp → (∀ ls', zm_L B ex ls' (zm_ml M) loc' → W p l e R s m args below meth c H locs cells slots Q (F0 m pc' ls' (st'.map (zm_cv B ex)))) := fun q ls' hl' => by
        subst q
        simp only [Nat.sub_self, Nat.add_zero] at k
        exact k H locs ls' ⟨hW, hS, hl'⟩
      split at h
      next hg =>
        have hd1 : decode (zm_by M) pc = .ok (ins, zm_len ins) := by
          rcases hlen with z | z
          · cases ins <;> first | (simp [zm_grp] at hg; done) | (simp [zm_len] at z; done)
          · rw [← z]; exact hd
        have hq := (zm_g1 (cells := 0) (slots := 0) (Q := fun _ => True) (H := H) (locs := locs) (l := l) (e := e) (below := below) (R := R) (meth := meth) (p := p) hx hb hown hts (fun i k hk => hE.2.2.2.2.2.1 _ i k hk) hl hd1 h (fun _ _ T hT X => ⟨_, Steps.refl _, trivial⟩)).1
        refine ⟨⟨[], by rw [hq]; simp⟩, (zm_g1 hx hb hown hts (fun i k hk => hE.2.2.2.2.2.1 _ i k hk) hl hd1 h (stay hq)).2⟩
      next hg =>
        have hq := (zm_g2 (cells := 0) (slots := 0) (Q := fun _ => True) (H := H) (locs := locs) (l := l) (e := e) (below := below) (R := R) (s := s) (m := m) (args := args) (meth := meth) (p := p) hx hb hl hd hlen h (fun T hT X => ⟨_, Steps.refl _, trivial⟩))
        exact ⟨⟨[], by rw [hq.1]; simp⟩, (zm_g2 hx hb hl hd hlen h (stay hq.1 ls (by rw [hq.2.1]; exact hl))).2.2⟩
      next hg1 hg2 =>
        have hd1 : decode (zm_by M) pc = .ok (ins, zm_len ins) := by
          rcases hlen with z | z
          · cases ins <;> first | (simp [zm_len] at z; done) | (exact absurd rfl hg2)
          · rw [← z]; exact hd
        exact zm_g3 hSR C S hd1 h hc0 hs0 k
    next => cases h
end ZT

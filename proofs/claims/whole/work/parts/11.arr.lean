theorem zm_noF (ci : Nat) (q : vw_C) (h : vwCl[ci]? = some q) : ∀ k, k < q.2.2 → zm_tyF ci k ≠ .float ∧ zm_tyF ci k ≠ .double := by
  match ci, h with
  | 0, h => cases h; exact (by decide)
  | 1, h => cases h; exact (by decide)
  | 2, h => cases h; exact (by decide)
  | 3, h => cases h; exact (by decide)
  | 4, h => cases h; exact (by decide)
  | 5, h => cases h; exact (by decide)
  | 6, h => cases h; exact (by decide)
  | 7, h => cases h; exact (by decide)
  | 8, h => cases h; exact (by decide)
  | 9, h => cases h; exact (by decide)
  | 10, h => cases h; exact (by decide)
  | 11, h => cases h; exact (by decide)
  | ci + 12, h => simp [vwCl] at h
theorem zm_arrW_1 : Cond.arrayClass .int ∈ zm_TW := (zm_t (zm_c1 134 rfl) rfl)
theorem zm_arrW_2 : Cond.arrayClass .byte ∈ zm_TW := (zm_t (zm_c1 73 rfl) rfl)
theorem zm_arrW_3 : Cond.arrayClass .boolean ∈ zm_TW := (zm_t (zm_c1 109 rfl) rfl)
theorem zm_arrW_4 : Cond.arrayClass .long ∈ zm_TW := (zm_t (zm_c1 108 rfl) rfl)
/-! arrays, new cells -/
section ZA
variable {dC : Nat → ClassId} {dI : Nat → Nat → Nat} {cy : Nat → ClassId} {B : Nat} {ex : Nat → Nat}
variable {p : Program} {l : Launch} {e : Env} {R : Room} {s : State} {m : MethodId} {args : Array Value} {below : List Frame} {meth : Method} {c : Code} {H : Heap} {locs : List Loc} {cells slots : Nat} {Q : State → Prop}
variable {cc : ByteArray} {pc : Nat} {ls : Array Slot} {rest : List Value} {h : ZH} {own : String}
theorem zm_ce_arr {t n : Nat} {f : Nat → Int} (h1 : 20 ≤ t) (h2 : t ≠ 23) : zm_ce B ex cy (t, n) f = .inl (cy t, n, .inl (fun j => Int32.ofInt (f j))) := by
  unfold zm_ce
  rw [if_neg (by show ¬ t < 12; omega), if_neg h2]
theorem zm_ce_arrL {n : Nat} {f : Nat → Int} : zm_ce B ex cy (23, n) f = .inl (cy 23, n, .inr (.inl (fun j => Int64.ofInt (f j)))) := rfl
theorem zm_W.arr {t n o : Nat} (hW : zm_W dC dI cy B ex h H) (ho : h.1[o]? = some (t, n)) (h1 : 20 ≤ t) (h2 : t < 23) : va_at (dC, dI) vwCl (B + o, .inl (cy t, n, .inl (fun j => Int32.ofInt (h.2 o j)))) H := by
  have := hW.2 o _ ho (by show t ≠ 30; omega)
  rw [zm_ce_arr h1 (by omega)] at this
  exact this
theorem zm_W.arrL {n o : Nat} (hW : zm_W dC dI cy B ex h H) (ho : h.1[o]? = some (23, n)) : va_at (dC, dI) vwCl (B + o, .inl (cy 23, n, .inr (.inl (fun j => Int64.ofInt (h.2 o j))))) H := hW.2 o _ ho (by show (23 : Nat) ≠ 30; decide)
theorem zm_ld_ok {tc o : Nat} {i z : Int} (hl : zm_ld tc i o h = some z) : ∃ n, h.1[o]? = some (tc, n) ∧ zm_inb i n = true ∧ z = h.2 o (n32 i).toNat := by
  unfold zm_ld at hl
  split at hl
  next t n ho =>
    split at hl
    next hc =>
      obtain ⟨rfl, hc⟩ := hc
      exact ⟨n, ho, hc, (Option.some.inj hl).symm⟩
    next => cases hl
  next => cases hl
theorem zm_stt_ok {tc o : Nat} {i z : Int} {h' : ZH} (hl : zm_stt tc i o z h = some h') : ∃ n, h.1[o]? = some (tc, n) ∧ zm_inb i n = true ∧ h' = (h.1, zm_up h.2 o (n32 i).toNat z) := by
  unfold zm_stt at hl
  split at hl
  next t n ho =>
    split at hl
    next hc =>
      obtain ⟨rfl, hc⟩ := hc
      exact ⟨n, ho, hc, (Option.some.inj hl).symm⟩
    next => cases hl
  next => cases hl
theorem zm_W.upA {t n o k : Nat} {z : Int} {H1 : Heap} (hW : zm_W dC dI cy B ex h H) (ho : h.1[o]? = some (t, n)) (h1 : 20 ≤ t) (h2 : t < 23) (hz : H1.size = H.size) (oq : ∀ x : Nat, x ≠ B + o → H1[x]? = H[x]?)
    (e1 : H1[B + o]? = some ((vp_cell (cy t) (n, .inl (fun j => Int32.ofInt (h.2 o j)))).setSlot k (.int (Int32.ofInt z)))) : zm_W dC dI cy B ex (h.1, zm_up h.2 o k z) H1 := by
  refine hW.wr ho hz oq (fun i hi => ?_) ?_
  · funext b
    simp [zm_up, hi]
  · rw [zm_ce_arr h1 (by omega)]
    show H1[B + o]? = some (vp_cell _ _)
    rw [e1, vp_cell_i, vp_cell_i, arrV_store]
    congr 2
    funext q
    by_cases hq : q = k
    · subst hq
      simp [updV, zm_up]
    · simp [updV, zm_up, hq]
theorem zm_W.upL {n o k : Nat} {z : Int} {H1 : Heap} (hW : zm_W dC dI cy B ex h H) (ho : h.1[o]? = some (23, n)) (hz : H1.size = H.size) (oq : ∀ x : Nat, x ≠ B + o → H1[x]? = H[x]?)
    (e1 : H1[B + o]? = some ((vp_cell (cy 23) (n, .inr (.inl (fun j => Int64.ofInt (h.2 o j))))).setSlot k (.long (Int64.ofInt z)))) : zm_W dC dI cy B ex (h.1, zm_up h.2 o k z) H1 := by
  refine hW.wr ho hz oq (fun i hi => ?_) ?_
  · funext b
    simp [zm_up, hi]
  · rw [zm_ce_arrL]
    show H1[B + o]? = some (vp_cell _ _)
    rw [e1, vp_cell_l, vp_cell_l, arrV_store]
    congr 2
    funext q
    by_cases hq : q = k
    · subst hq
      simp [updV, zm_up]
    · simp [updV, zm_up, hq]
theorem zm_r_iast {H0 : Heap} {n o : Nat} {i z : Int} (hx : p.tables.exec = Jvm.exec) (hb : c.code = cc) (hK : va_K (dC, dI) vwCl (zm_tys cy) s) (hW : zm_W dC dI cy B ex h H) (hS : va_S (fun q => B ≤ q) H0 H locs) (ho : h.1[o]? = some (20, n)) (hin : zm_inb i n = true) (hd : decode cc pc = .ok (.iastore, 1))
    (kk : ∀ (H1 : Heap) (locs1 : List Loc), zm_W dC dI cy B ex (h.1, zm_up h.2 o (n32 i).toNat (z)) H1 → va_S (fun q => B ≤ q) H0 H1 locs1 → W p l e R s m args below meth c H1 locs1 cells slots Q (F0 m (pc + 1) ls rest)) : W p l e R s m args below meth c H locs cells slots Q (F0 m pc ls (.int (Int32.ofInt z) :: .int (Int32.ofInt i) :: .ref (B + o) :: rest)) := by
  have hat := hW.arr ho (by decide) (by decide)
  refine W.iast hx hb hat ((hK.2 0 _ rfl).1 n (fun j => .int (Int32.ofInt (h.2 o j)))) (fun q => by cases q) (by show ¬ (_ ∨ (arrV _ _ _).slots.size ≤ _); rw [arrV_size]; exact zm_inb_in hin) rfl rfl hd fun H1 e1 z1 oq => ?_
  refine kk H1 _ (hW.upA ho (by decide) (by decide) z1 oq ?_) (hS.put z1 oq (Nat.le_add_right _ _))
  exact e1
theorem zm_r_bast {H0 : Heap} {n o : Nat} {i z : Int} (hx : p.tables.exec = Jvm.exec) (hb : c.code = cc) (hK : va_K (dC, dI) vwCl (zm_tys cy) s) (hW : zm_W dC dI cy B ex h H) (hS : va_S (fun q => B ≤ q) H0 H locs) (ho : h.1[o]? = some (21, n)) (hin : zm_inb i n = true) (hd : decode cc pc = .ok (.bastore, 1))
    (kk : ∀ (H1 : Heap) (locs1 : List Loc), zm_W dC dI cy B ex (h.1, zm_up h.2 o (n32 i).toNat (zm_i2b z)) H1 → va_S (fun q => B ≤ q) H0 H1 locs1 → W p l e R s m args below meth c H1 locs1 cells slots Q (F0 m (pc + 1) ls rest)) : W p l e R s m args below meth c H locs cells slots Q (F0 m pc ls (.int (Int32.ofInt z) :: .int (Int32.ofInt i) :: .ref (B + o) :: rest)) := by
  have hat := hW.arr ho (by decide) (by decide)
  refine W.bast hx hb hat ((hK.2 1 _ rfl).1 n (fun j => .int (Int32.ofInt (h.2 o j)))) (fun q => by cases q) (by show ¬ (_ ∨ (arrV _ _ _).slots.size ≤ _); rw [arrV_size]; exact zm_inb_in hin) rfl rfl hd fun H1 e1 z1 oq => ?_
  refine kk H1 _ (hW.upA ho (by decide) (by decide) z1 oq ?_) (hS.put z1 oq (Nat.le_add_right _ _))
  rw [e1, show Int32.ofInt (zm_i2b z) = (Int32.ofInt z).toInt8.toInt32 from zm_oi _]
  rfl
theorem zm_r_zast {H0 : Heap} {n o : Nat} {i z : Int} (hx : p.tables.exec = Jvm.exec) (hb : c.code = cc) (hK : va_K (dC, dI) vwCl (zm_tys cy) s) (hW : zm_W dC dI cy B ex h H) (hS : va_S (fun q => B ≤ q) H0 H locs) (ho : h.1[o]? = some (22, n)) (hin : zm_inb i n = true) (hd : decode cc pc = .ok (.bastore, 1))
    (kk : ∀ (H1 : Heap) (locs1 : List Loc), zm_W dC dI cy B ex (h.1, zm_up h.2 o (n32 i).toNat (zm_z1 z)) H1 → va_S (fun q => B ≤ q) H0 H1 locs1 → W p l e R s m args below meth c H1 locs1 cells slots Q (F0 m (pc + 1) ls rest)) : W p l e R s m args below meth c H locs cells slots Q (F0 m pc ls (.int (Int32.ofInt z) :: .int (Int32.ofInt i) :: .ref (B + o) :: rest)) := by
  have hat := hW.arr ho (by decide) (by decide)
  refine W.zast hx hb hat ((hK.2 2 _ rfl).1 n (fun j => .int (Int32.ofInt (h.2 o j)))) (fun q => by cases q) (by show ¬ (_ ∨ (arrV _ _ _).slots.size ≤ _); rw [arrV_size]; exact zm_inb_in hin) rfl rfl hd fun H1 e1 z1 oq => ?_
  refine kk H1 _ (hW.upA ho (by decide) (by decide) z1 oq ?_) (hS.put z1 oq (Nat.le_add_right _ _))
  rw [e1, show Int32.ofInt (zm_z1 z) = vp_nar .boolean (Int32.ofInt z) from zm_oi _]
  rfl
theorem zm_r_last {H0 : Heap} {n o : Nat} {i z : Int} (hx : p.tables.exec = Jvm.exec) (hb : c.code = cc) (hK : va_K (dC, dI) vwCl (zm_tys cy) s) (hW : zm_W dC dI cy B ex h H) (hS : va_S (fun q => B ≤ q) H0 H locs) (ho : h.1[o]? = some (23, n)) (hin : zm_inb i n = true) (hd : decode cc pc = .ok (.lastore, 1))
    (kk : ∀ (H1 : Heap) (locs1 : List Loc), zm_W dC dI cy B ex (h.1, zm_up h.2 o (n32 i).toNat z) H1 → va_S (fun q => B ≤ q) H0 H1 locs1 → W p l e R s m args below meth c H1 locs1 cells slots Q (F0 m (pc + 1) ls rest)) : W p l e R s m args below meth c H locs cells slots Q (F0 m pc ls (.long (Int64.ofInt z) :: .int (Int32.ofInt i) :: .ref (B + o) :: rest)) := by
  have hat := hW.arrL ho
  refine W.last hx hb hat ((hK.2 3 _ rfl).1 n (fun j => .long (Int64.ofInt (h.2 o j)))) (fun q => by cases q) (by show ¬ (_ ∨ (arrV _ _ _).slots.size ≤ _); rw [arrV_size]; exact zm_inb_in hin) rfl rfl hd fun H1 e1 z1 oq => ?_
  exact kk H1 _ (hW.upL ho z1 oq e1) (hS.put z1 oq (Nat.le_add_right _ _))
/-- new: an object -/
theorem zm_r_new {H0 : Heap} (hx : p.tables.exec = Jvm.exec) (hb : c.code = cc) (hts : ∀ w ∈ zm_TW, w.before args s = true) (hown : s.vm.findClass own = some m.cls) (hK : va_K (dC, dI) vwCl (zm_tys cy) s) (hW : zm_W dC dI cy B ex h H) (hS : va_S (fun q => B ≤ q) H0 H locs)
    {i ci : Nat} (h30 : zm_no30 h.1 = true) (hf : zm_okC own (i, ci)) (hd : decode cc pc = .ok (.new i, 3)) (hcells : cells + 1 ≤ R.cells) (hslots : slots + zm_nF ci ≤ R.slots)
    (kk : ∀ H1 : Heap, zm_W dC dI cy B ex (h.1 ++ [(ci, zm_nF ci)], fun a b => if a = h.1.length then zm_df (zm_tyF ci b) else h.2 a b) H1 → va_S (fun q => B ≤ q) H0 H1 locs → W p l e R s m args below meth c H1 locs (cells + 1) (slots + zm_nF ci) Q (F0 m (pc + 3) ls (.ref (B + h.1.length) :: rest))) :
    W p l e R s m args below meth c H locs cells slots Q (F0 m pc ls rest) := by
  obtain ⟨q, h1, h2, h3, h4⟩ := hf
  obtain ⟨g1, g2, g3, g4, g5, g6, g7, g8⟩ := zm_cls_ok ci q h1
  have hKn := hK.1 ci _ h1
  refine W.newcK hx hb hown (hts _ h2) (hts _ h3) (hts _ h4) rfl hd hcells (by rw [← g7]; exact hslots) hKn.2.1 (hW.1 h30) fun H1 kC hkC e1 z1 o1 => ?_
  rw [← g7]
  have hz : H1.size = H.size + 1 := by rw [z1, hW.1 h30]
  refine kk H1 (hW.push hz (fun x hx => o1 x (by rw [← hW.1 h30]; exact hx)) (fun i hi => ?_) (fun _ => ?_)) ⟨Nat.le_trans hS.1 (by omega), fun x x1 x2 => (o1 x (by rw [← hW.1 h30]; exact Nat.lt_of_lt_of_le x1 hS.1)).trans (hS.2.1 x x1 x2), hS.2.2⟩
  · funext b
    simp [Nat.ne_of_lt hi]
  · rw [zm_ce_obj (q := (ci, zm_nF ci)) g6]
    refine ⟨q, h1, (u_born (zm_tyF ci) hts g1 hKn hkC e1 g2).to (fun j hj => ?_)⟩
    simp only [vp_V, List.getD_eq_getElem?_getD, List.getElem?_map]
    rw [g7, List.getElem?_range hj]
    simp only [Option.map_some, Option.getD_some, if_true]
    have hnf := zm_noF ci q h1 j hj
    cases hty : zm_tyF ci j <;> first | rfl | exact absurd hty hnf.1 | exact absurd hty hnf.2
theorem zm_arr_cls {ty : FieldType} {k : Nat} {cA : ClassId} (hK : va_K (dC, dI) vwCl (zm_tys cy) s) (hk : (zm_tys cy)[k]? = some (cA, ty)) (hs : ∀ C, ty ≠ .object C) : s.vm.findClass ("[" ++ ty.toString) = some cA := by
  have h := (hK.2 k _ hk).2
  unfold va_RA at h
  split at h
  next C e => exact absurd e (hs C)
  next => exact h
/-- new: an array -/
theorem zm_r_newa {H0 : Heap} {t : ArrayType} {n : Int} (hx : p.tables.exec = Jvm.exec) (hb : c.code = cc) (hts : ∀ w ∈ zm_TW, w.before args s = true) (hK : va_K (dC, dI) vwCl (zm_tys cy) s) (hW : zm_W dC dI cy B ex h H) (hS : va_S (fun q => B ≤ q) H0 H locs)
    (h30 : zm_no30 h.1 = true) (ht1 : 20 ≤ zm_at_code t) (ht2 : zm_at_code t ≤ 23) (hn0 : 0 ≤ n32 n) (hn1 : n32 n ≤ 100000) (hd : decode cc pc = .ok (.newarray t, 2)) (hcells : cells + 1 ≤ R.cells) (hslots : slots + (n32 n).toNat ≤ R.slots)
    (kk : ∀ H1 : Heap, zm_W dC dI cy B ex (h.1 ++ [(zm_at_code t, (n32 n).toNat)], fun a b => if a = h.1.length then 0 else h.2 a b) H1 → va_S (fun q => B ≤ q) H0 H1 locs → W p l e R s m args below meth c H1 locs (cells + 1) (slots + (n32 n).toNat) Q (F0 m (pc + 2) ls (.ref (B + h.1.length) :: rest))) :
    W p l e R s m args below meth c H locs cells slots Q (F0 m pc ls (.int (Int32.ofInt n) :: rest)) := by
  have hneg : ¬ Int32.ofInt n < 0 := fun q => by
    have := (zm_n32_lt n 0).mp q
    rw [zm_n0'] at this
    omega
  have hw : Cond.arrayClass (newarray.typeOf t) ∈ zm_TW := by
    cases t <;> first | (simp [zm_at_code] at ht1 ht2; done) | exact zm_arrW_1 | exact zm_arrW_2 | exact zm_arrW_3 | exact zm_arrW_4
  have hbytes : (n32 n).toNat * componentBytes (newarray.typeOf t) ≤ 536870912 := by
    have hc : componentBytes (newarray.typeOf t) ≤ 8 := by cases t <;> decide
    have hn : (n32 n).toNat ≤ 100000 := by omega
    calc (n32 n).toNat * componentBytes (newarray.typeOf t) ≤ 100000 * 8 := Nat.mul_le_mul hn hc
      _ ≤ 536870912 := by decide
  refine va_newaK hx hb (hts _ hw) rfl hd rfl hneg zm_clamp hbytes hcells hslots (hW.1 h30) fun H1 cA e1 z1 o1 hAr hNm => ?_
  have hz : H1.size = H.size + 1 := by rw [z1, hW.1 h30]
  have hcA : cA = cy (zm_at_code t) := by
    have key : ∀ k ty, (zm_tys cy)[k]? = some (cy (zm_at_code t), ty) → newarray.typeOf t = ty → (∀ C, ty ≠ .object C) → cA = cy (zm_at_code t) := fun k ty hk he hs => by
      have h9 := zm_arr_cls hK hk hs
      rw [he] at hNm
      exact Option.some.inj (hNm.symm.trans h9)
    cases t
    case int => exact key 0 .int rfl rfl (fun _ q => by cases q)
    case byte => exact key 1 .byte rfl rfl (fun _ q => by cases q)
    case boolean => exact key 2 .boolean rfl rfl (fun _ q => by cases q)
    case long => exact key 3 .long rfl rfl (fun _ q => by cases q)
    all_goals (exact absurd ht2 (by decide))
  refine kk H1 (hW.push hz (fun x hx => o1 x (by rw [← hW.1 h30]; exact hx)) (fun i hi => ?_) (fun _ => ?_)) ⟨Nat.le_trans hS.1 (by omega), fun x x1 x2 => (o1 x (by rw [← hW.1 h30]; exact Nat.lt_of_lt_of_le x1 hS.1)).trans (hS.2.1 x x1 x2), hS.2.2⟩
  · funext b
    simp [Nat.ne_of_lt hi]
  · subst hcA
    cases t
    case long =>
      show H1[_]? = some (vp_cell _ _)
      rw [e1, vp_cell_l]
      simp only [if_true]
      rfl
    case int =>
      show H1[_]? = some (vp_cell _ _)
      rw [e1, vp_cell_i]
      simp only [if_true]
      rfl
    case byte =>
      show H1[_]? = some (vp_cell _ _)
      rw [e1, vp_cell_i]
      simp only [if_true]
      rfl
    case boolean =>
      show H1[_]? = some (vp_cell _ _)
      rw [e1, vp_cell_i]
      simp only [if_true]
      rfl
    all_goals (exact absurd ht2 (by decide))
end ZA

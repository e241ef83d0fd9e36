/-! the heap: reads and writes -/
def zm_clsOK (ci : Nat) (q : vw_C) : Prop := (∀ w ∈ u_ws q.1 q.2.1 q.2.2, w ∈ zm_TW) ∧ (∀ k, k < q.2.2 → parseFieldDescriptor (q.2.1 k).2.2.1 = some (zm_tyF ci k)) ∧ (∀ a, a < q.2.2 → ∀ b, b < q.2.2 → a ≠ b → (q.2.1 a).2.1 ≠ (q.2.1 b).2.1) ∧ (∀ k, k < q.2.2 → (q.2.1 k).1 = q.1) ∧ zm_cn.getD ci "" = q.1 ∧ ci < 12 ∧ zm_nF ci = q.2.2 ∧ ∀ k, zm_fin ci k = (q.2.1 k).2.2.2
theorem zm_cls_ok (ci : Nat) (q : vw_C) (h : vwCl[ci]? = some q) : zm_clsOK ci q := by
  match ci, h with
  | 0, h => cases h; exact ⟨zm_wo_0, tyX0_ok, nmX0, by decide, rfl, by decide, rfl, fun _ => rfl⟩
  | 1, h => cases h; exact ⟨zm_wo_1, tyX1_ok, nmX1, by decide, rfl, by decide, rfl, fun _ => rfl⟩
  | 2, h => cases h; exact ⟨zm_wo_2, tyX2_ok, nmX2, by decide, rfl, by decide, rfl, fun _ => rfl⟩
  | 3, h => cases h; exact ⟨zm_wo_3, tyX3_ok, nmX3, by decide, rfl, by decide, rfl, fun _ => rfl⟩
  | 4, h => cases h; exact ⟨zm_wo_4, tyX4_ok, nmX4, by decide, rfl, by decide, rfl, fun _ => rfl⟩
  | 5, h => cases h; exact ⟨zm_wo_5, tyX5_ok, nmX5, by decide, rfl, by decide, rfl, fun _ => rfl⟩
  | 6, h => cases h; exact ⟨zm_wo_6, tyX6_ok, nmX6, by decide, rfl, by decide, rfl, fun _ => rfl⟩
  | 7, h => cases h; exact ⟨zm_wo_7, tyX7_ok, nmX7, by decide, rfl, by decide, rfl, fun _ => rfl⟩
  | 8, h => cases h; exact ⟨zm_wo_8, tyX8_ok, nmX8, by decide, rfl, by decide, rfl, fun _ => rfl⟩
  | 9, h => cases h; exact ⟨zm_wo_9, tyX9_ok, nmX9, by decide, rfl, by decide, rfl, fun _ => rfl⟩
  | 10, h => cases h; exact ⟨zm_wo_10, tyX10_ok, nmX10, by decide, rfl, by decide, rfl, fun _ => rfl⟩
  | 11, h => cases h; exact ⟨zm_wo_11, tyX11_ok, nmX11, by decide, rfl, by decide, rfl, fun _ => rfl⟩
  | ci + 12, h => simp [vwCl] at h
theorem zm_fv_fi {B : Nat} {ex : Nat → Nat} {ty : FieldType} {v : ZV} {z : Int} (h : zm_fi ty v = some z) : zm_cv B ex (zm_fv ty z) = zm_cv B ex v := by
  unfold zm_fi at h
  split at h
  · split at h
    · cases h; rfl
    · cases h
  · split at h
    · split at h
      · cases h; rfl
      · cases h
    · cases h
  · split at h
    · cases h; rfl
    · cases h
  · split at h
    · cases h
      simp only [zm_fv]
      rw [if_neg (by omega)]
      rfl
    · cases h
  · split at h
    · cases h
      simp only [zm_fv]
      rw [if_neg (by omega)]
      rfl
    · cases h
  · cases h
theorem zm_01 {z : Int} (h : n32 z = 0 ∨ n32 z = 1) : Int32.ofInt z = 0 ∨ Int32.ofInt z = 1 := by
  rcases h with h | h
  · exact Or.inl (Int32.toInt_inj.mp h)
  · exact Or.inr (Int32.toInt_inj.mp h)
theorem zm_fi_ok {B : Nat} {ex : Nat → Nat} {ty : FieldType} {v : ZV} {z : Int} (h : zm_fi ty v = some z) : narrow ty (zm_cv B ex v) = zm_cv B ex v ∧ fits ty (zm_cv B ex v) = true := by
  unfold zm_fi at h
  split at h
  · split at h
    · exact ⟨rfl, rfl⟩
    · cases h
  · split at h
    · split at h
      next hz =>
        rcases zm_01 hz with e | e
        · simp [zm_cv, e, narrow, fits]
        · simp [zm_cv, e, narrow, fits]
      next => cases h
    · cases h
  · split at h
    · exact ⟨rfl, rfl⟩
    · cases h
  · split at h
    · exact ⟨rfl, rfl⟩
    · cases h
  · split at h
    · exact ⟨rfl, rfl⟩
    · cases h
  · cases h
section ZH
variable {dC : Nat → ClassId} {dI : Nat → Nat → Nat} {cy : Nat → ClassId} {B : Nat} {ex : Nat → Nat}
theorem zm_one {q : Nat × va_E} {H : Heap} (h : va_at (dC, dI) vwCl q H) : va_P (dC, dI) vwCl [q] H := by
  intro k x hx
  have hk : k < 1 := (List.getElem?_eq_some_iff.mp hx).1
  rw [show k = 0 by omega] at hx
  cases hx
  exact h
/-- one cell written -/
theorem zm_W.wr {h : ZH} {H H1 : Heap} {o : Nat} {q : Nat × Nat} {D' : Nat → Nat → Int} (hW : zm_W dC dI cy B ex h H) (ho : h.1[o]? = some q) (hz : H1.size = H.size) (hoq : ∀ x : Nat, x ≠ B + o → H1[x]? = H[x]?) (hD' : ∀ i, i ≠ o → D' i = h.2 i)
    (he : va_at (dC, dI) vwCl (B + o, zm_ce B ex cy q (D' o)) H1) : zm_W dC dI cy B ex (h.1, D') H1 := by
  refine ⟨fun q9 => by rw [hz]; exact hW.1 q9, fun i r hr h30 => ?_⟩
  by_cases e : i = o
  · subst e
    have : r = q := Option.some.inj (hr.symm.trans ho)
    subst this
    exact he
  · have h1 := hW.2 i r hr h30
    show va_at (dC, dI) vwCl (B + i, zm_ce B ex cy r (D' i)) H1
    rw [hD' i e]
    exact h1.kept (hoq _ (fun q => e (by omega)))
/-- one cell more -/
theorem zm_W.push {h : ZH} {H H1 : Heap} {q : Nat × Nat} {D' : Nat → Nat → Int} (hW : zm_W dC dI cy B ex h H) (hz : H1.size = H.size + 1) (hoq : ∀ x : Nat, x < H.size → H1[x]? = H[x]?) (hD' : ∀ i, i < h.1.length → D' i = h.2 i)
    (he : q.1 ≠ 30 → va_at (dC, dI) vwCl (B + h.1.length, zm_ce B ex cy q (D' h.1.length)) H1) : zm_W dC dI cy B ex (h.1 ++ [q], D') H1 := by
  have hn : zm_no30 (h.1 ++ [q]) = true → zm_no30 h.1 = true := fun q9 => by
    simp only [zm_no30, List.all_append, Bool.and_eq_true] at q9 ⊢
    exact q9.1
  refine ⟨fun q9 => by rw [hz, hW.1 (hn q9)]; simp; omega, fun i r hr h30 => ?_⟩
  by_cases e : i < h.1.length
  · have hr' : h.1[i]? = some r := by rw [← List.getElem?_append_left e]; exact hr
    have h1 := hW.2 i r hr' h30
    show va_at (dC, dI) vwCl (B + i, zm_ce B ex cy r (D' i)) H1
    rw [hD' i e]
    exact h1.kept (hoq _ h1.lt)
  · have hlt : i < (h.1 ++ [q]).length := (List.getElem?_eq_some_iff.mp hr).1
    have e2 : i = h.1.length := by simp at hlt; omega
    subst e2
    have : r = q := by
      have h9 : (h.1 ++ [q])[h.1.length]? = some r := hr
      rw [List.getElem?_append_right (Nat.le_refl _)] at h9
      simpa using h9.symm
    subst this
    exact he h30
variable {p : Program} {l : Launch} {e : Env} {R : Room} {s : State} {m : MethodId} {args : Array Value} {below : List Frame} {meth : Method} {c : Code} {H : Heap} {locs : List Loc} {cells slots : Nat} {Q : State → Prop}
variable {cc : ByteArray} {pc : Nat} {ls : Array Slot} {rest : List Value} {h : ZH} {own : String}
theorem zm_ce_obj {q : Nat × Nat} {f : Nat → Int} (hq : q.1 < 12) : zm_ce B ex cy q f = .inr (q.1, (List.range q.2).map (fun k => zm_cv B ex (zm_fv (zm_tyF q.1 k) (f k)))) := by
  unfold zm_ce
  rw [if_pos hq]
theorem zm_r_get (hx : p.tables.exec = Jvm.exec) (hb : c.code = cc) (hts : ∀ w ∈ zm_TW, w.before args s = true) (hown : s.vm.findClass own = some m.cls) (hK : va_K (dC, dI) vwCl (zm_tys cy) s) (hW : zm_W dC dI cy B ex h H)
    {i ci k o : Nat} (hf : zm_okF own (i, ci, k)) (ho : h.1[o]? = some (ci, zm_nF ci)) (hd : decode cc pc = .ok (.getfield i, 3))
    (kk : W p l e R s m args below meth c H locs cells slots Q (F0 m (pc + 3) ls (zm_cv B ex (zm_fv (zm_tyF ci k) (h.2 o k)) :: rest))) : W p l e R s m args below meth c H locs cells slots Q (F0 m pc ls (.ref (B + o) :: rest)) := by
  obtain ⟨q, h1, h2, h3⟩ := hf
  obtain ⟨g1, g2, g3, g4, g5, g6, g7, g8⟩ := zm_cls_ok ci q h1
  have hat := hW.2 o _ ho (by show ci ≠ 30; omega)
  rw [zm_ce_obj (q := (ci, zm_nF ci)) g6] at hat
  refine va_get (D := (dC, dI)) (ci := ci) (C := q.1) (T := q.2.1) (N := q.2.2) hx hb hts g1 hown hK (zm_one hat) 0 rfl h1 k h2 (hts _ h3) (fun _ h9 => h9) ?_ hd kk
  rw [g7]
  rw [List.getElem?_map, List.getElem?_range h2]
  rfl
theorem zm_S.put {A : Nat → Prop} {H0 H1 : Heap} {a k : Nat} (hS : va_S A H0 H locs) (z : H1.size = H.size) (oq : ∀ q : Nat, q ≠ a → H1[q]? = H[q]?) (ha : A a) : va_S A H0 H1 (locs ++ [⟨a, k⟩]) := hS.put z oq ha
theorem zm_putAt {ci o k : Nat} {z : Int} {v : ZV} {q : vw_C} {H1 : Heap} {cell : Cell} (hW : zm_W dC dI cy B ex h H) (ho : h.1[o]? = some (ci, zm_nF ci)) (h1 : vwCl[ci]? = some q) (hk : k < q.2.2) (hap : ∀ x y, x < q.2.2 → y < q.2.2 → x ≠ y → dI ci x ≠ dI ci y) (hz : zm_fi (zm_tyF ci k) v = some z)
    (q2 : cell.cls = dC ci) (q3 : cell.vm = .none) (q4 : ∀ j, j < q.2.2 → cell.slots[dI ci j]? = some (vp_V ((List.range (zm_nF ci)).map (fun k => zm_cv B ex (zm_fv (zm_tyF ci k) (h.2 o k)))) j))
    (e1 : H1[B + o]? = some (cell.setSlot (dI ci k) (zm_cv B ex v))) (e2 : H1.size = H.size) (e3 : ∀ x : Nat, x ≠ B + o → H1[x]? = H[x]?) : zm_W dC dI cy B ex (h.1, zm_up h.2 o k z) H1 := by
  obtain ⟨g1, g2, g3, g4, g5, g6, g7, g8⟩ := zm_cls_ok ci q h1
  refine hW.wr ho e2 e3 (fun i hi => ?_) ?_
  · funext b
    simp [zm_up, hi]
  · rw [zm_ce_obj (q := (ci, zm_nF ci)) g6]
    refine ⟨q, h1, ?_⟩
    refine t_OB.to (V := updV (vp_V ((List.range (zm_nF ci)).map (fun k => zm_cv B ex (zm_fv (zm_tyF ci k) (h.2 o k))))) k (zm_cv B ex v)) ⟨_, e1, q2, q3, t_set q4 hap hk _⟩ (fun j hj => ?_)
    simp only [vp_V, List.getD_eq_getElem?_getD, List.getElem?_map]
    rw [g7, List.getElem?_range hj]
    simp only [Option.map_some, Option.getD_some, updV]
    by_cases e : j = k
    · subst e
      simp [zm_up, zm_fv_fi hz]
    · simp [zm_up, e, vp_V, g7, List.getElem?_range hj]
theorem zm_r_put {H0 : Heap} {M : Nat} (hx : p.tables.exec = Jvm.exec) (hb : c.code = cc) (hts : ∀ w ∈ zm_TW, w.before args s = true) (hown : s.vm.findClass own = some m.cls) (hK : va_K (dC, dI) vwCl (zm_tys cy) s) (hW : zm_W dC dI cy B ex h H) (hS : va_S (fun q => B ≤ q) H0 H locs)
    {i ci k o : Nat} {v : ZV} {z : Int} (hf : zm_okF own (i, ci, k)) (ho : h.1[o]? = some (ci, zm_nF ci)) (hz : zm_fi (zm_tyF ci k) v = some z) (hfin : zm_fin ci k = false ∨ (meth.name = "<init>" ∧ own = zm_cn.getD ci "")) (hd : decode cc pc = .ok (.putfield i, 3))
    (kk : ∀ (H1 : Heap) (locs1 : List Loc), zm_W dC dI cy B ex (h.1, zm_up h.2 o k z) H1 → va_S (fun q => B ≤ q) H0 H1 locs1 → W p l e R s m args below meth c H1 locs1 cells slots Q (F0 m (pc + 3) ls rest)) : W p l e R s m args below meth c H locs cells slots Q (F0 m pc ls (zm_cv B ex v :: .ref (B + o) :: rest)) := by
  obtain ⟨q, h1, hk, h3⟩ := hf
  obtain ⟨g1, g2, g3, g4, g5, g6, g7, g8⟩ := zm_cls_ok ci q h1
  have hat := hW.2 o _ ho (by show ci ≠ 30; omega)
  rw [zm_ce_obj (q := (ci, zm_nF ci)) g6] at hat
  obtain ⟨hn, hfit⟩ := zm_fi_ok (B := B) (ex := ex) hz
  have hap := va_apart (own := own) hts g1 (zm_tyF ci) g2 g3 hK h1
  obtain ⟨r, hr, cell, q1, q2, q3, q4⟩ := hat
  have hrq : r = q := Option.some.inj (hr.symm.trans h1)
  subst hrq
  obtain ⟨hSl, hfc, kC, hkC, hkind⟩ := hK.1 ci _ h1
  obtain ⟨cf, kf, fi, f, hi, hsl⟩ := hSl k hk
  have hlay := hts _ (g1 _ (u_in_lay hk))
  unfold u_lay at hlay
  have hst := (u_facts hfc hkC (u_lays hts g1 hk) hi).1
  have hne : ∀ x : Nat, x ≠ B + o → True := fun _ _ => trivial
  rcases hfin with hff | ⟨hm, howner⟩
  · rw [g8] at hff
    rw [if_neg (by rw [hff]; decide)] at hlay
    have h6 := u_store hfc hkC hkind hlay hi (g2 k hk) hn hfit
    refine W.putK hx hb (f := f) ⟨hown, hts _ h3, ⟨_, _, _, hi⟩, hst⟩ (by rw [q2]; exact h6) q1 q3 (by rw [hsl]; exact k2_hasslot (q4 k hk)) rfl rfl hd fun H' e1 e2 e3 => ?_
    rw [hsl] at e1 ⊢
    exact kk H' _ (zm_putAt hW ho h1 hk hap hz q2 q3 q4 e1 e2 e3) (hS.put e2 e3 (Nat.le_add_right _ _))
  · by_cases hff : (r.2.1 k).2.2.2 = true
    · rw [if_pos hff] at hlay
      have hcf : m.cls = cf := by
        obtain ⟨_, _, c', _, _, _, -, -, hf', -, -, -, hown2, -⟩ := Cond.laysFinal_spec hlay
        have e1 : c' = cf := by have := hi.symm.trans hf'; simp at this; exact this.1.symm
        rw [g4 k hk, ← g5, ← howner] at hown2
        rw [← e1]; exact Option.some.inj (hown.symm.trans hown2)
      have h6 := u_fits hfc hkC hkind (Or.inr hlay) hi (g2 k hk) hn hfit
      refine W.putFinK hx hb hown (hts _ h3) hi hst hcf hm (by rw [q2]; exact h6) q1 q3 (by rw [hsl]; exact k2_hasslot (q4 k hk)) rfl rfl hd fun H' e1 e2 e3 => ?_
      rw [hsl] at e1 ⊢
      exact kk H' _ (zm_putAt hW ho h1 hk hap hz q2 q3 q4 e1 e2 e3) (hS.put e2 e3 (Nat.le_add_right _ _))
    · rw [if_neg hff] at hlay
      have h6 := u_store hfc hkC hkind hlay hi (g2 k hk) hn hfit
      refine W.putK hx hb (f := f) ⟨hown, hts _ h3, ⟨_, _, _, hi⟩, hst⟩ (by rw [q2]; exact h6) q1 q3 (by rw [hsl]; exact k2_hasslot (q4 k hk)) rfl rfl hd fun H' e1 e2 e3 => ?_
      rw [hsl] at e1 ⊢
      exact kk H' _ (zm_putAt hW ho h1 hk hap hz q2 q3 q4 e1 e2 e3) (hS.put e2 e3 (Nat.le_add_right _ _))
end ZH

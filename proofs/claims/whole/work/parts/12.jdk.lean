theorem zm_mst_4 : Cond.static Lib.Math.max.name ∈ zm_TW := (zm_t (zm_c3 27 rfl) rfl)
theorem zm_mco_4 : Cond.code Lib.Math.max.name Lib.Math.max.code 2 (some .int) ∈ zm_TW := (zm_t (zm_c3 28 rfl) rfl)
theorem zm_mst_5 : Cond.static Lib.Math.min.name ∈ zm_TW := (zm_t (zm_c3 24 rfl) rfl)
theorem zm_mco_5 : Cond.code Lib.Math.min.name Lib.Math.min.code 2 (some .int) ∈ zm_TW := (zm_t (zm_c3 25 rfl) rfl)
theorem zm_mst_6 : Cond.static Lib.Math.abs.name ∈ zm_TW := (zm_t (zm_c4 35 rfl) rfl)
theorem zm_mco_6 : Cond.code Lib.Math.abs.name Lib.Math.abs.code 1 (some .int) ∈ zm_TW := (zm_t (zm_c4 36 rfl) rfl)
theorem zm_mini : Cond.initialized "java/lang/Math" ∈ zm_TW := (zm_t (zm_c1 13 rfl) rfl)
theorem zm_cnat : Cond.native arraycopyName ∈ zm_TW := (zm_t (zm_c4 234 rfl) rfl)
theorem zm_csta : Cond.static arraycopyName ∈ zm_TW := (zm_t (zm_c4 233 rfl) rfl)
theorem zm_cini : Cond.initialized "java/lang/System" ∈ zm_TW := (zm_t (zm_c1 18 rfl) rfl)
theorem zm_oin : Cond.instanceMethod Lib.objectInit ∈ zm_TW := (zm_t (zm_c1 29 rfl) rfl)
theorem zm_oco : Cond.code Lib.objectInit ⟨#[0xb1]⟩ 1 none ∈ zm_TW := (zm_t (zm_c1 30 rfl) rfl)
def zm_kindY (e : zm_LK) : Bool := decide (e.2.1 = 3 → e.2.2.2 = Lib.objectInit) && decide (e.2.1 = 4 → e.2.2.2 = Lib.Math.max.name) && decide (e.2.1 = 5 → e.2.2.2 = Lib.Math.min.name) && decide (e.2.1 = 6 → e.2.2.2 = Lib.Math.abs.name) && decide (e.2.1 = 7 → e.2.2.2 = arraycopyName) && decide (e.2.1 = 8 → e.2.2.2 = ⟨"java/lang/String", "length", "()I"⟩) && decide (e.2.1 = 9 → e.2.2.2 = ⟨"java/lang/String", "charAt", "(I)C"⟩)
theorem zm_kindY_all : zm_lkT.all (fun l => l.all zm_kindY) = true := by decide +kernel
theorem zm_kind {M i k t : Nat} {y : MethodName} (h : zm_find zm_lkT (zm_oc M) i = some (k, t, y)) : (k = 3 → y = Lib.objectInit) ∧ (k = 4 → y = Lib.Math.max.name) ∧ (k = 5 → y = Lib.Math.min.name) ∧ (k = 6 → y = Lib.Math.abs.name) ∧ (k = 7 → y = arraycopyName) ∧ (k = 8 → y = ⟨"java/lang/String", "length", "()I"⟩) ∧ (k = 9 → y = ⟨"java/lang/String", "charAt", "(I)C"⟩) := by
  obtain ⟨l, h1, h2⟩ := zm_find_mem h
  have h3 := List.all_eq_true.mp zm_kindY_all l (List.mem_of_getElem? h1)
  have h4 := List.all_eq_true.mp h3 _ h2
  simp only [zm_kindY, Bool.and_eq_true, decide_eq_true_eq] at h4
  exact ⟨h4.1.1.1.1.1.1, h4.1.1.1.1.1.2, h4.1.1.1.1.2, h4.1.1.1.2, h4.1.1.2, h4.1.2, h4.2⟩
section ZP
variable {dC : Nat → ClassId} {dI : Nat → Nat → Nat} {cy : Nat → ClassId} {B : Nat} {ex : Nat → Nat}
variable {p : Program} {l : Launch} {e : Env} {R : Room} {s : State} {m : MethodId} {args : Array Value} {below : List Frame} {meth : Method} {c : Code} {H : Heap} {locs : List Loc} {cells slots : Nat} {Q : State → Prop}
variable {cc : ByteArray} {pc : Nat} {ls : Array Slot} {rest : List Value} {h : ZH} {own : String}
theorem zm_W.cp {a b na nb sp dp n : Nat} {H1 : Heap} (hW : zm_W dC dI cy B ex h H) (hb0 : h.1[b]? = some (20, nb)) (hz : H1.size = H.size) (oq : ∀ x : Nat, x ≠ B + b → H1[x]? = H[x]?)
    (e1 : H1[B + b]? = some (vp_cell (cy 20) (nb, .inl (va_cpy (fun j => Int32.ofInt (h.2 a j)) (fun j => Int32.ofInt (h.2 b j)) sp dp n)))) : zm_W dC dI cy B ex (h.1, zm_cp h.2 a sp b dp n) H1 := by
  refine hW.wr hb0 hz oq (fun i hi => ?_) ?_
  · funext k
    simp [zm_cp, hi]
  · rw [zm_ce_arr (by decide) (by decide)]
    show H1[B + b]? = some (vp_cell _ _)
    rw [e1]
    congr 3
    congr 1
    funext q
    simp only [va_cpy, zm_cp, true_and]
    split <;> rfl
theorem zm_r_copy {H0 : Heap} {index a b na nb : Nat} {sp dp n : Int} (hx : p.tables.exec = Jvm.exec) (hb : c.code = cc) (hml : c.maxLocals = ls.size) (hts : ∀ w ∈ zm_TW, w.before args s = true) (hown : s.vm.findClass own = some m.cls) (hlink : (Cond.methodLink own index arraycopyName).before args s = true)
    (hK : va_K (dC, dI) vwCl (zm_tys cy) s) (hW : zm_W dC dI cy B ex h H) (hS : va_S (fun q => B ≤ q) H0 H locs) (ha0 : h.1[a]? = some (20, na)) (hb0 : h.1[b]? = some (20, nb))
    (h1 : 0 ≤ n32 sp) (h2 : 0 ≤ n32 dp) (h3 : 0 ≤ n32 n) (h4 : (n32 sp).toNat + (n32 n).toNat ≤ na) (h5 : (n32 dp).toNat + (n32 n).toNat ≤ nb)
    (hframes : 1 ≤ R.frames) (hlocals : (rest.map fun v => v.category).sum + (nativeFrameWords "java/lang/System" "arraycopy" 5 + 11) ≤ R.locals) (hdg : decode cc pc = .ok (.invokestatic index, 3))
    (kk : ∀ (H1 : Heap) (locs1 : List Loc), zm_W dC dI cy B ex (h.1, zm_cp h.2 a (n32 sp).toNat b (n32 dp).toNat (n32 n).toNat) H1 → va_S (fun q => B ≤ q) H0 H1 locs1 → W p l e R s m args below meth c H1 locs1 cells slots Q (F0 m (pc + 3) ls rest)) :
    W p l e R s m args below meth c H locs cells slots Q (F0 m pc ls (.int (Int32.ofInt n) :: .int (Int32.ofInt dp) :: .ref (B + b) :: .int (Int32.ofInt sp) :: .ref (B + a) :: rest)) := by
  have neg : ∀ z : Int, 0 ≤ n32 z → ¬ Int32.ofInt z < 0 := fun z hz q => by
    have := (zm_n32_lt z 0).mp q
    rw [zm_n0'] at this
    omega
  have nn : ∀ z : Int, 0 ≤ n32 z → (Int32.ofInt z).toInt = ((Int32.ofInt z).toNatClampNeg : Int) := fun z hz => by
    show n32 z = ((n32 z).toNat : Int)
    omega
  intro T hT X
  have hc0 : H[B + a]? = some (vp_cell (cy 20) (na, .inl (fun j => Int32.ofInt (h.2 a j)))) := hW.arr ha0 (by decide) (by decide)
  have hc1 : H[B + b]? = some (vp_cell (cy 20) (nb, .inl (fun j => Int32.ofInt (h.2 b j)))) := hW.arr hb0 (by decide) (by decide)
  obtain ⟨-, k0, hk0, cm0, hkk0⟩ := (hK.2 0 _ rfl).1 na (fun j => .int (Int32.ofInt (h.2 a j)))
  obtain ⟨-, k1, hk1, cm1, hkk1⟩ := (hK.2 0 _ rfl).1 nb (fun j => .int (Int32.ofInt (h.2 b j)))
  obtain ⟨vm', X', step⟩ := X.arraycopy hx hown hlink (hts _ zm_cnat) (hts _ zm_csta) (hts _ zm_cini) (src := B + a) (dst := B + b) (cs := vp_cell (cy 20) (na, .inl (fun j => Int32.ofInt (h.2 a j)))) (cd := vp_cell (cy 20) (nb, .inl (fun j => Int32.ofInt (h.2 b j)))) (srcPos := Int32.ofInt sp) (destPos := Int32.ofInt dp) (n := Int32.ofInt n) (by rw [hT]; exact hc0) (by rw [hT]; exact hc1)
    (fun _ h => by cases h) (fun _ h => by cases h) (fun h => by cases h) (fun h => by cases h) hk0 hk1 hkk0 hkk1 (by simp [refKind]) (neg sp h1) (neg dp h2) (neg n h3)
    (by rw [nn sp h1, nn n h3]; show ¬ _ > ((arrV (cy 20) na (fun j => .int (Int32.ofInt (h.2 a j)))).slots.size : Int); rw [arrV_size]; simp only [zm_clamp]; omega)
    (by rw [nn dp h2, nn n h3]; show ¬ _ > ((arrV (cy 20) nb (fun j => .int (Int32.ofInt (h.2 b j)))).slots.size : Int); rw [arrV_size]; simp only [zm_clamp]; omega)
    (fun vm₁ _ i hi => by
      have e : (vp_cell (cy 20) (na, .inl (fun j => Int32.ofInt (h.2 a j)))).slots.getD ((Int32.ofInt sp).toNatClampNeg + i) .null = .int (Int32.ofInt (h.2 a ((Int32.ofInt sp).toNatClampNeg + i))) := by
        show (arrV (cy 20) na (fun j => .int (Int32.ofInt (h.2 a j)))).slots.getD _ _ = _
        rw [Array.getD_eq_getD_getElem?, arrV_read _ _ (by simp only [zm_clamp] at hi ⊢; omega)]
        rfl
      refine ⟨?_, ?_⟩
      · rw [e]
        rfl
      · rw [e]
        exact trivial)
    (g := F0 m pc ls (.int (Int32.ofInt n) :: .int (Int32.ofInt dp) :: .ref (B + b) :: .int (Int32.ofInt sp) :: .ref (B + a) :: rest)) rfl (by rw [hml]) (rest := rest) rfl (by rw [hb]; exact hdg) hframes (by show 2 * 0 + _ + _ ≤ _; omega)
  have e1 : copied (vp_cell (cy 20) (na, .inl (fun j => Int32.ofInt (h.2 a j)))) (vp_cell (cy 20) (nb, .inl (fun j => Int32.ofInt (h.2 b j)))) (Int32.ofInt sp) (Int32.ofInt dp) (Int32.ofInt n) = vp_cell (cy 20) (nb, .inl (va_cpy (fun j => Int32.ofInt (h.2 a j)) (fun j => Int32.ofInt (h.2 b j)) (Int32.ofInt sp).toNatClampNeg (Int32.ofInt dp).toNatClampNeg (Int32.ofInt n).toNatClampNeg)) := va_copied (fun z => .int z) (cy 20) (cy 20) (fun j => Int32.ofInt (h.2 a j)) (fun j => Int32.ofInt (h.2 b j)) (show (Int32.ofInt sp).toNatClampNeg + (Int32.ofInt n).toNatClampNeg ≤ na from h4)
  rw [e1] at X' step
  have hl : B + b < H.size := (Array.getElem?_eq_some_iff.mp hc1).1
  have hheap : ((T.setVm vm').setCell (B + b) (vp_cell (cy 20) (nb, .inl (va_cpy (fun j => Int32.ofInt (h.2 a j)) (fun j => Int32.ofInt (h.2 b j)) (Int32.ofInt sp).toNatClampNeg (Int32.ofInt dp).toNatClampNeg (Int32.ofInt n).toNatClampNeg)))).heap = H.setIfInBounds (B + b) (vp_cell (cy 20) (nb, .inl (va_cpy (fun j => Int32.ofInt (h.2 a j)) (fun j => Int32.ofInt (h.2 b j)) (Int32.ofInt sp).toNatClampNeg (Int32.ofInt dp).toNatClampNeg (Int32.ofInt n).toNatClampNeg))) := by rw [← hT]; rfl
  have oq : ∀ q : Nat, q ≠ B + b → (H.setIfInBounds (B + b) (vp_cell (cy 20) (nb, .inl (va_cpy (fun j => Int32.ofInt (h.2 a j)) (fun j => Int32.ofInt (h.2 b j)) (Int32.ofInt sp).toNatClampNeg (Int32.ofInt dp).toNatClampNeg (Int32.ofInt n).toNatClampNeg))))[q]? = H[q]? := fun q hq => by simp [Array.getElem?_setIfInBounds, Ne.symm hq]
  obtain ⟨t, a1, b1⟩ := kk _ _ (hW.cp (a := a) (na := na) hb0 (by simp) oq (by simp [Array.getElem?_setIfInBounds, hl, zm_clamp])) ⟨by simp; exact hS.1, fun q g1 g2 => by
      rw [oq q (fun e => g2 (by rw [e]; exact Nat.le_add_right _ _))]
      exact hS.2.1 q g1 g2, fun q hq => by
      rcases List.mem_append.mp hq with h | h
      · exact hS.2.2 q h
      · obtain ⟨z, -, hz⟩ := List.mem_map.mp h
        rw [← hz]
        exact Nat.le_add_right _ _⟩ _ hheap X'
  exact ⟨t, step t a1, b1⟩
end ZP

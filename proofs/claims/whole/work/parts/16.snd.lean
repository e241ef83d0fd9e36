/-! a method by contract -/
section ZU
variable {dC : Nat → ClassId} {dI : Nat → Nat → Nat} {cy : Nat → ClassId} {B : Nat} {ex : Nat → Nat} {X : Nat × (Nat → Int)} {l : Launch}
def zm_FC (dC : Nat → ClassId) (dI : Nat → Nat → Nat) (cy : Nat → ClassId) (B : Nat) (ex : Nat → Nat) (X : Nat × (Nat → Int)) (l : Launch) (d M : Nat) (c0 : ZC) (out : Option (List ZV)) (hp' : ZH) : Prop :=
  ∀ (p : Program) (e : Env) (R : Room) (s : State) (m : MethodId) (args : Array Value) (below : List Frame) (meth : Method) (c : Code) (H : Heap) (locs : List Loc) (cells slots : Nat) (Q : State → Prop) (ls : Array Slot),
    zm_Cx dC dI cy B ex X d M p R s m args meth c → zm_St dC dI cy B ex s M c0.2.2.2 c0.2.1 H locs ls → cells + (hp'.1.length - c0.2.2.2.1.length) ≤ R.cells → slots + (zm_ns hp'.1 - zm_ns c0.2.2.2.1) ≤ R.slots →
    (∀ (pc1 : Nat) (loc1 st1 : List ZV) (H1 : Heap) (locs1 : List Loc) (ls1 : Array Slot), zm_St dC dI cy B ex s M hp' loc1 H1 locs1 ls1 → zm_stp X M (pc1, loc1, st1, hp') = some (.inr (.inr out)) →
      W p l e R s m args below meth c H1 locs1 (cells + (hp'.1.length - c0.2.2.2.1.length)) (slots + (zm_ns hp'.1 - zm_ns c0.2.2.2.1)) Q (F0 m pc1 ls1 (st1.map (zm_cv B ex)))) →
    W p l e R s m args below meth c H locs cells slots Q (F0 m c0.1 ls (c0.2.2.1.map (zm_cv B ex)))
def zm_Pr (dC : Nat → ClassId) (dI : Nat → Nat → Nat) (cy : Nat → ClassId) (B : Nat) (ex : Nat → Nat) (X : Nat × (Nat → Int)) (hp : ZH) (U : State) : Prop :=
  zm_W dC dI cy B ex hp U.heap ∧ va_K (dC, dI) vwCl (zm_tys cy) U ∧ B ≤ U.heap.size ∧ zm_E B ex X U U.heap
def zm_rv (B : Nat) (ex : Nat → Nat) (o : List ZV) : Option Value := o.head?.map (zm_cv B ex)
def zm_Qo (dC : Nat → ClassId) (dI : Nat → Nat → Nat) (cy : Nat → ClassId) (B : Nat) (ex : Nat → Nat) (o : List ZV) (hp : ZH) : Array Value → State → Outcome → State → Prop := fun _ st oc t =>
  oc = .returned (zm_rv B ex o) ∧ zm_W dC dI cy B ex hp t.heap ∧ va_F (fun q => B ≤ q) st t
abbrev zm_rm (d mc ms : Nat) : Room := { frames := d + 20, cells := mc, slots := ms, locals := (d + 1) * 64 + 1000 }
/-- what the end of a method is -/
theorem zm_end {M pc : Nat} {loc st : List ZV} {hp : ZH} {o : List ZV} (h : zm_stp X M (pc, loc, st, hp) = some (.inr (.inr (some o)))) :
    (∃ z, st = [vI z] ∧ o = [vI z] ∧ decode (zm_by M) pc = .ok (.ireturn, 1) ∧ zm_rt M = some .int) ∨ (∃ z, st = [vI z] ∧ o = [vI z] ∧ decode (zm_by M) pc = .ok (.ireturn, 1) ∧ zm_rt M = some .boolean ∧ (n32 z = 0 ∨ n32 z = 1)) ∨
    (∃ z, st = [vL z] ∧ o = [vL z] ∧ decode (zm_by M) pc = .ok (.lreturn, 1) ∧ zm_rt M = some .long) ∨ (st = [] ∧ o = [] ∧ decode (zm_by M) pc = .ok (.return_, 1) ∧ zm_rt M = none) := by
  unfold zm_stp at h
  split at h
  · cases h
  next ins len hins =>
    have hd : decode (zm_by M) pc = .ok (ins, len) := by
      unfold zm_ins at hins
      split at hins
      next q => rw [q]; exact congrArg _ (Option.some.inj hins)
      next => cases hins
    split at h
    next hlen =>
      have hd1 : zm_len ins ≠ 0 → decode (zm_by M) pc = .ok (ins, zm_len ins) := fun q => by
        rcases hlen with z | z
        · exact absurd z q
        · rw [← z]; exact hd
      have hinv : ∀ i op, zm_inv X M pc i op loc st hp ≠ some (.inr (.inr (some o))) := by
        intro i op h
        have hi2 : ∀ {f : Int → Int → Option Int} {n : Nat}, zm_i2 f n loc st hp ≠ some (.inr (.inr (some o))) := fun q => by
          unfold zm_i2 at q
          split at q
          · split at q <;> cases q
          · cases q
        unfold zm_inv at h
        split at h
        · cases h
        · split at h
          · split at h
            · unfold zm_call at h
              split at h <;> cases h
            · cases h
          · split at h <;> first | cases h | skip
            · split at h
              · split at h
                · split at h <;> cases h
                · cases h
              · cases h
            · split at h
              · split at h
                · exact hi2 h
                · cases h
              · cases h
            · split at h
              · split at h
                · exact hi2 h
                · cases h
              · cases h
            · split at h
              · split at h
                · split at h <;> cases h
                · cases h
              · cases h
            · split at h
              · split at h
                · split at h
                  · split at h <;> cases h
                  · cases h
                · cases h
              · cases h
            · split at h
              · split at h
                · split at h
                  · split at h <;> cases h
                  · cases h
                · cases h
              · cases h
            · split at h
              · split at h
                · split at h
                  · split at h <;> cases h
                  · cases h
                · cases h
              · cases h
      unfold zm_ex at h
      split at h
      · exfalso
        simp only at h
        unfold zm_ex1 at h
        split at h <;> first | cases h | skip
        · split at h
          · split at h <;> cases h
          · split at h <;> cases h
        · split at h
          · split at h <;> cases h
          · cases h
        · split at h
          · split at h <;> cases h
          · cases h
        · unfold zm_li at h; split at h <;> cases h
        · unfold zm_li at h; split at h <;> cases h
        · unfold zm_ll at h; split at h <;> cases h
        · unfold zm_ll at h; split at h <;> cases h
        · unfold zm_la at h; split at h <;> cases h
        · unfold zm_la at h; split at h <;> cases h
        · unfold zm_si at h
          split at h
          · split at h <;> cases h
          · cases h
        · unfold zm_si at h
          split at h
          · split at h <;> cases h
          · cases h
        · unfold zm_sl at h
          split at h
          · split at h <;> cases h
          · cases h
        · unfold zm_sl at h
          split at h
          · split at h <;> cases h
          · cases h
        · unfold zm_sa at h
          split at h
          · split at h <;> cases h
          · split at h <;> cases h
          · cases h
        · unfold zm_sa at h
          split at h
          · split at h <;> cases h
          · split at h <;> cases h
          · cases h
        · split at h
          · split at h <;> cases h
          · cases h
      · exfalso
        simp only at h
        have hi2 : ∀ {f : Int → Int → Option Int} {n : Nat}, zm_i2 f n loc st hp ≠ some (.inr (.inr (some o))) := fun q => by
          unfold zm_i2 at q
          split at q
          · split at q <;> cases q
          · cases q
        have hj2 : ∀ {f : Int → Int → Option Int} {n : Nat}, zm_j2 f n loc st hp ≠ some (.inr (.inr (some o))) := fun q => by
          unfold zm_j2 at q
          split at q
          · split at q <;> cases q
          · cases q
        have hj : ∀ {r : List ZV} {off : Int}, zm_jmp pc off loc r hp ≠ some (.inr (.inr (some o))) := fun q => by
          unfold zm_jmp at q
          split at q <;> cases q
        unfold zm_ex2 at h
        split at h <;> first | exact hi2 h | exact hj2 h | exact hj h | cases h | skip
        all_goals
          split at h
          · first
              | cases h
              | (split at h
                 · first
                     | cases h
                     | exact hj h
                     | (split at h <;> cases h)
                 · first
                     | cases h
                     | (split at h
                        · exact hj h
                        · cases h))
          · cases h
      · simp only at h
        cases ins
        case ireturn =>
          simp only [zm_ex3] at h
          split at h
          next z =>
            split at h
            next hr =>
              cases h
              exact Or.inl ⟨z, rfl, rfl, hd1 (by decide), hr⟩
            next hr =>
              split at h
              next hz =>
                cases h
                exact Or.inr (Or.inl ⟨z, rfl, rfl, hd1 (by decide), hr, hz⟩)
              next => cases h
            next => cases h
          next => cases h
        case lreturn =>
          simp only [zm_ex3] at h
          split at h
          next z =>
            split at h
            next hr =>
              cases h
              exact Or.inr (Or.inr (Or.inl ⟨z, rfl, rfl, hd1 (by decide), hr⟩))
            next => cases h
          next => cases h
        case return_ =>
          simp only [zm_ex3] at h
          split at h
          next =>
            split at h
            next hr =>
              cases h
              exact Or.inr (Or.inr (Or.inr ⟨rfl, rfl, hd1 (by decide), hr⟩))
            next => cases h
          next => cases h
        case invokevirtual => exact absurd h (hinv _ 0)
        case invokestatic => exact absurd h (hinv _ 1)
        case invokespecial => exact absurd h (hinv _ 2)
        all_goals
          exfalso
          simp only [zm_ex3] at h
          first
            | cases h
            | ((repeat' split at h) <;> cases h)
    next => cases h
/-- the contract of a method whose run is known -/
theorem zm_met {d M : Nat} {e0 : zm_MI} {as o : List ZV} {hp hp' : ZH} (hM : zm_mtL[M]? = some e0) (h317 : M < 317) (hF : zm_FC dC dI cy B ex X l d M (0, zm_en (zm_ml M) as, [], hp) (some o) hp') (hlen : (zm_fl as).length ≤ zm_ml M) :
    Met l e0.1 (Cond.code e0.1 e0.2.1 e0.2.2.1 e0.2.2.2.1 :: zm_TW) (zm_rm d (hp'.1.length - hp.1.length) (zm_ns hp'.1 - zm_ns hp.1)) (va_Pc (as.map (zm_cv B ex)) (zm_Pr dC dI cy B ex X hp)) (zm_Qo dC dI cy B ex o hp') (hp'.1.length - hp.1.length) (zm_ns hp'.1 - zm_ns hp.1) (fun q => B ≤ q) := by
  obtain ⟨f1, f2, f3, f4, f5, f6⟩ := zm_mt_facts hM
  have eby : zm_by M = e0.2.1 := by simp only [zm_by, hM]
  have eml : zm_ml M = e0.2.2.1 := by simp only [zm_ml, hM]
  have ert : zm_rt M = e0.2.2.2.1 := by simp only [zm_rt, hM]
  refine Met.ofW (cc := e0.2.1) (maxL := e0.2.2.1) (ret := e0.2.2.2.1) f5 rfl ?_
  intro p e s m args below meth c s₁ Bd hml hv
  obtain ⟨rfl, hW, hK, hBs, hE⟩ := hv
  have hts0 := atoms_spec (ws := Cond.code e0.1 e0.2.1 e0.2.2.1 e0.2.2.2.1 :: zm_TW) Bd.pre
  have hts : ∀ w ∈ zm_TW, w.before (as.map (zm_cv B ex)).toArray s = true := fun w hw => hts0 w (List.mem_cons_of_mem _ hw)
  have hown : s.vm.findClass (zm_cnm M) = some m.cls := by rw [f1]; exact findClass_of_methodNamed Bd.named
  have hnm : meth.name = zm_nm M := by
    rw [(name_of_methodNamed Bd.named Bd.method).1]
    simp only [zm_nm, hM]
  have hl := lv_entry (as.map (zm_cv B ex)) (n := e0.2.2.1) (by rw [zm_fl_len, ← eml]; exact hlen)
  rw [lg_entry_eq]
  generalize (lg_sl (as.map (zm_cv B ex)) ++ List.replicate (e0.2.2.1 - (lg_sl (as.map (zm_cv B ex))).length) Slot.unset).toArray = ls at hl ⊢
  have hL : zm_L B ex ls (zm_ml M) (zm_en (zm_ml M) as) := zm_L_entry B ex hlen (by rw [eml]; exact hl)
  have hlocks := Bd.notSynchronized
  have hr := Bd.returns
  refine hF p e _ s m _ below meth c s.heap [] 0 0 _ ls ⟨Bd.exec, by rw [eby]; exact Bd.bytes, by rw [eml]; exact hml, hown, hts, hK, hBs, ⟨hnm, fun q => absurd q (by omega)⟩, Nat.le_refl _, Nat.le_refl _, hE⟩ ⟨hW, va_S.rf, hL⟩ (Nat.le_of_eq (Nat.zero_add _)) (Nat.le_of_eq (Nat.zero_add _)) ?_
  intro pc1 loc1 st1 H1 locs1 ls1 hSt hend
  obtain ⟨hW1, hS1, -⟩ := hSt
  simp only [Nat.zero_add]
  have hF9 : ∀ t : State, t.heap = H1 → va_F (fun q => B ≤ q) s t := fun t ht => hS1.F ht
  rcases zm_end hend with ⟨z, rfl, rfl, hd, hrt⟩ | ⟨z, rfl, rfl, hd, hrt, hz⟩ | ⟨z, rfl, rfl, hd, hrt⟩ | ⟨rfl, rfl, hd, hrt⟩
  · exact W.iret Bd.exec Bd.bytes (by rw [hr, ← ert, hrt]) (fun t ht hw => ⟨rfl, by rw [ht]; exact hW1, hF9 t ht⟩) hS1.2.2 (by rw [← eby]; exact hd)
  · refine W.zret Bd.exec Bd.bytes (by rw [hr, ← ert, hrt]) ?_ (fun t ht hw => ⟨rfl, by rw [ht]; exact hW1, hF9 t ht⟩) hS1.2.2 (by rw [← eby]; exact hd)
    rcases zm_01 hz with q | q <;> rw [q] <;> rfl
  · exact W.lret Bd.exec Bd.bytes (by rw [hr, ← ert, hrt]) (fun t ht hw => ⟨rfl, by rw [ht]; exact hW1, hF9 t ht⟩) hS1.2.2 (by rw [← eby]; exact hd)
  · exact W.vret Bd.exec Bd.bytes (by rw [hr, ← ert, hrt]) (fun t ht hw => ⟨rfl, by rw [ht]; exact hW1, hF9 t ht⟩) hS1.2.2 (by rw [← eby]; exact hd)
end ZU

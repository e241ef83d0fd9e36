/-! the throw of led, its catch in the law's led, and the call of that -/
abbrev zt_names : List String := ["java/lang/RuntimeException", "java/lang/Exception"]
theorem zt_in : (vx_at0 RX10 379 zt_N zt_names).all (fun w => decide (w ∈ lw_tbl)) = true := by decide +kernel
theorem zt_nb : ((vx_at0 RX10 379 zt_N zt_names).filter (fun w => !goodWord w)).all (fun w => decide (w ∈ zt_B)) = true := by decide +kernel
theorem zt_ot : (vx_at0 RX10 379 zt_N zt_names).all vx_ot = true := by decide +kernel
theorem zt_cl : Cond.classLink RX10 377 zt_N ∈ zm_TW := (zm_t (zm_c6 59 rfl) rfl)
theorem zt_ini : Cond.initialized zt_N ∈ zm_TW := (zm_t (zm_c1 22 rfl) rfl)
theorem zt_cll : Cond.classLink RL 13 zt_N ∈ zm_TW := (zm_t (zm_c6 54 rfl) rfl)
theorem zt_cw : Cond.codeWith yL_led cL_led 4 (some .int) [(0, 9, 12, 13)] ∈ zm_TW := (zm_t (zm_c6 53 rfl) rfl)
theorem zt_li : Cond.initialized RL ∈ zm_TW := (zm_t (zm_c1 0 rfl) rfl)
theorem zt_d74 : decode cX10_led 74 = .ok (.new 377, 3) := by decide +kernel
theorem zt_d77 : decode cX10_led 77 = .ok (.dup, 1) := by decide +kernel
theorem zt_d78 : decode cX10_led 78 = .ok (.invokespecial 379, 3) := by decide +kernel
theorem zt_d81 : decode cX10_led 81 = .ok (.athrow, 1) := by decide +kernel
theorem zt_l0 : decode cL_led 0 = .ok (.aload_n 2, 1) := by decide +kernel
theorem zt_l1 : decode cL_led 1 = .ok (.iconst 0, 1) := by decide +kernel
theorem zt_l2 : decode cL_led 2 = .ok (.aload_n 0, 1) := by decide +kernel
theorem zt_l3 : decode cL_led 3 = .ok (.iload_n 1, 1) := by decide +kernel
theorem zt_l4 : decode cL_led 4 = .ok (.invokevirtual 7, 3) := by decide +kernel
theorem zt_l7 : decode cL_led 7 = .ok (.i2l, 1) := by decide +kernel
theorem zt_l8 : decode cL_led 8 = .ok (.lastore, 1) := by decide +kernel
theorem zt_l12 : decode cL_led 12 = .ok (.astore_n 3, 1) := by decide +kernel
theorem zt_l56 : (match decode cL_led 5 with
  | .ok (.invokevirtual _, _) | .ok (.invokestatic _, _) | .ok (.invokespecial _, _) => false
  | _ => true) = true ∧ (match decode cL_led 6 with
  | .ok (.invokevirtual _, _) | .ok (.invokestatic _, _) | .ok (.invokespecial _, _) => false
  | _ => true) = true := by decide +kernel
theorem zt_lk : zm_find zm_lkT (zm_oc 317) 7 = some (0, 164, yX10_led) := by decide +kernel
def zt_kind (e : zm_LK) : Bool := decide (e.2.1 < 3 → e.2.2.1 = 317 → e.2.1 = 1)
theorem zt_kind_all : zm_lkT.all (fun l => l.all zt_kind) = true := by decide +kernel
theorem zt_k317 {M i k : Nat} {y : MethodName} (h : zm_find zm_lkT (zm_oc M) i = some (k, 317, y)) (hk : k < 3) : k = 1 := by
  obtain ⟨l, h1, h2⟩ := zm_find_mem h
  have h3 := List.all_eq_true.mp zt_kind_all l (List.mem_of_getElem? h1)
  have h4 := List.all_eq_true.mp h3 _ h2
  exact of_decide_eq_true h4 hk rfl
section ZX
variable {dC : Nat → ClassId} {dI : Nat → Nat → Nat} {cy : Nat → ClassId} {B : Nat} {ex : Nat → Nat} {X : Nat × (Nat → Int)} {l : Launch}
theorem zm_W.exc {h : ZH} {H H1 : Heap} (hW : zm_W dC dI cy B ex h H) (hk : ∀ q : Nat, q < H.size → H1[q]? = H[q]?) : zm_W dC dI cy B ex (h.1 ++ [(30, 6)], h.2) H1 := by
  refine ⟨fun q => ?_, fun i r hr h30 => ?_⟩
  · simp [zm_no30] at q
  · have hr2 : h.1[i]? = some r := by
      by_cases e : i < h.1.length
      · rw [← List.getElem?_append_left e]; exact hr
      · exfalso
        have hlt : i < (h.1 ++ [(30, 6)]).length := (List.getElem?_eq_some_iff.mp hr).1
        have e2 : i = h.1.length := by simp at hlt; omega
        subst e2
        have h9 : (h.1 ++ [(30, 6)])[h.1.length]? = some r := hr
        rw [List.getElem?_append_right (Nat.le_refl _)] at h9
        simp at h9
        exact h30 (by rw [← h9])
    have h1 := hW.2 i r hr2 h30
    exact h1.kept (hk _ h1.lt)
theorem zm_L.sJ {ls ls' : Array Slot} {nL : Nat} {loc loc' : List ZV} {i : Nat} {x : Value} (h : zm_L B ex ls nL loc) (hv : zm_s1 loc i vJ = some loc') (hl : lv_has ls' nL ((i, x) :: (zm_lvl B ex loc).filter (fun q => !(q.1 == i) && !(q.1 + 1 == i && q.2.category == 2)))) : zm_L B ex ls' nL loc' := by
  have hlen := zm_s1_lt hv
  have key : loc'.length = loc.length ∧ ∀ j w, loc'[j]? = some w → w ≠ vJ → (j ≠ i ∧ loc[j]? = some w ∧ ¬ (j + 1 = i ∧ zm_isL w = true)) := by
    unfold zm_s1 at hv
    rw [if_pos hlen] at hv
    cases i with
    | zero =>
      simp only [Option.some.injEq] at hv
      subst hv
      refine ⟨by simp, fun j w hw hj => ?_⟩
      by_cases e : j = 0
      · subst e
        rw [List.getElem?_set_self hlen] at hw
        exact absurd (Option.some.inj hw).symm hj
      · rw [List.getElem?_set_ne (Ne.symm e)] at hw
        exact ⟨e, hw, fun q => by omega⟩
    | succ n =>
      simp only at hv
      split at hv
      next z hz =>
        cases hv
        refine ⟨by simp, fun j w hw hj => ?_⟩
        by_cases e : j = n + 1
        · subst e
          rw [List.getElem?_set_self (by simpa using hlen)] at hw
          exact absurd (Option.some.inj hw).symm hj
        · rw [List.getElem?_set_ne (Ne.symm e)] at hw
          by_cases e2 : j = n
          · subst e2
            rw [List.getElem?_set_self (by omega)] at hw
            exact absurd (Option.some.inj hw).symm hj
          · rw [List.getElem?_set_ne (Ne.symm e2)] at hw
            exact ⟨e, hw, fun q => by omega⟩
      next hno =>
        cases hv
        refine ⟨by simp, fun j w hw hj => ?_⟩
        by_cases e : j = n + 1
        · subst e
          rw [List.getElem?_set_self hlen] at hw
          exact absurd (Option.some.inj hw).symm hj
        · rw [List.getElem?_set_ne (Ne.symm e)] at hw
          refine ⟨e, hw, fun q => ?_⟩
          obtain ⟨q1, q2⟩ := q
          have e2 : j = n := by omega
          subst e2
          rcases w with z | z | o | k | b <;> simp [zm_isL] at q2
          exact hno z hw
  refine ⟨hl.1, hl.2.1, by rw [key.1]; exact h.2.2.1, fun j w hw hj => ?_⟩
  obtain ⟨h1, h2, h3⟩ := key.2 j w hw hj
  refine hl.2.2 (j, zm_cv B ex w) (List.mem_cons_of_mem _ (List.mem_filter.mpr ⟨zm_lvl_mem.mpr ⟨w, h2, hj, rfl⟩, ?_⟩))
  simp only [Bool.and_eq_true, Bool.not_eq_true', beq_eq_false_iff_ne, Bool.and_eq_false_iff]
  refine ⟨h1, ?_⟩
  by_cases e : j + 1 = i
  · right
    intro q
    exact h3 ⟨e, zm_isL_iff.mp q⟩
  · exact Or.inl e
/-- where a throw is -/
theorem zt_end {M pc : Nat} {loc st : List ZV} {hp : ZH} (h : zm_stp X M (pc, loc, st, hp) = some (.inr (.inr none))) : M = 164 ∧ st = [] ∧ pc = 74 := by
  unfold zm_stp at h
  split at h
  · cases h
  next ins len hins =>
    split at h
    next hlen =>
      have hinv : ∀ i op, zm_inv X M pc i op loc st hp ≠ some (.inr (.inr none)) := by
        intro i op h
        have hi2 : ∀ {f : Int → Int → Option Int} {n : Nat}, zm_i2 f n loc st hp ≠ some (.inr (.inr none)) := fun q => by
          unfold zm_i2 at q
          split at q
          · split at q <;> cases q
          · cases q
        unfold zm_inv at h
        split at h
        · cases h
        · split at h
          · split at h
            · unfold zm_call at h
              split at h <;> cases h
            · cases h
          · split at h <;> first | cases h | skip
            · split at h
              · split at h
                · split at h <;> cases h
                · cases h
              · cases h
            · split at h
              · split at h
                · exact hi2 h
                · cases h
              · cases h
            · split at h
              · split at h
                · exact hi2 h
                · cases h
              · cases h
            · split at h
              · split at h
                · split at h <;> cases h
                · cases h
              · cases h
            · split at h
              · split at h
                · split at h
                  · split at h <;> cases h
                  · cases h
                · cases h
              · cases h
            · split at h
              · split at h
                · split at h
                  · split at h <;> cases h
                  · cases h
                · cases h
              · cases h
            · split at h
              · split at h
                · split at h
                  · split at h <;> cases h
                  · cases h
                · cases h
              · cases h
      unfold zm_ex at h
      split at h
      · exfalso
        simp only at h
        unfold zm_ex1 at h
        split at h <;> first | cases h | skip
        · split at h
          · split at h <;> cases h
          · split at h <;> cases h
        · split at h
          · split at h <;> cases h
          · cases h
        · split at h
          · split at h <;> cases h
          · cases h
        · unfold zm_li at h; split at h <;> cases h
        · unfold zm_li at h; split at h <;> cases h
        · unfold zm_ll at h; split at h <;> cases h
        · unfold zm_ll at h; split at h <;> cases h
        · unfold zm_la at h; split at h <;> cases h
        · unfold zm_la at h; split at h <;> cases h
        · unfold zm_si at h
          split at h
          · split at h <;> cases h
          · cases h
        · unfold zm_si at h
          split at h
          · split at h <;> cases h
          · cases h
        · unfold zm_sl at h
          split at h
          · split at h <;> cases h
          · cases h
        · unfold zm_sl at h
          split at h
          · split at h <;> cases h
          · cases h
        · unfold zm_sa at h
          split at h
          · split at h <;> cases h
          · split at h <;> cases h
          · cases h
        · unfold zm_sa at h
          split at h
          · split at h <;> cases h
          · split at h <;> cases h
          · cases h
        · split at h
          · split at h <;> cases h
          · cases h
      · exfalso
        simp only at h
        have hi2 : ∀ {f : Int → Int → Option Int} {n : Nat}, zm_i2 f n loc st hp ≠ some (.inr (.inr none)) := fun q => by
          unfold zm_i2 at q
          split at q
          · split at q <;> cases q
          · cases q
        have hj2 : ∀ {f : Int → Int → Option Int} {n : Nat}, zm_j2 f n loc st hp ≠ some (.inr (.inr none)) := fun q => by
          unfold zm_j2 at q
          split at q
          · split at q <;> cases q
          · cases q
        have hj : ∀ {r : List ZV} {off : Int}, zm_jmp pc off loc r hp ≠ some (.inr (.inr none)) := fun q => by
          unfold zm_jmp at q
          split at q <;> cases q
        unfold zm_ex2 at h
        split at h <;> first | exact hi2 h | exact hj2 h | exact hj h | cases h | skip
        all_goals
          split at h
          · first
              | cases h
              | (split at h
                 · first
                     | cases h
                     | exact hj h
                     | (split at h <;> cases h)
                 · first
                     | cases h
                     | (split at h
                        · exact hj h
                        · cases h))
          · cases h
      · simp only at h
        cases ins
        case new =>
          simp only [zm_ex3] at h
          split at h
          · split at h <;> cases h
          · split at h
            next q => exact q
            next => cases h
        case invokevirtual => exact absurd h (hinv _ 0)
        case invokestatic => exact absurd h (hinv _ 1)
        case invokespecial => exact absurd h (hinv _ 2)
        all_goals
          exfalso
          simp only [zm_ex3] at h
          first
            | cases h
            | ((repeat' split at h) <;> cases h)
    next => cases h
def zt_XC (dC : Nat → ClassId) (dI : Nat → Nat → Nat) (cy : Nat → ClassId) (B : Nat) (ex : Nat → Nat) (h1 : ZH) : String → State → State → Prop := fun E st t => E = zt_N ∧ zm_W dC dI cy B ex (h1.1 ++ [(30, 6)], h1.2) t.heap ∧ va_F (fun q => B ≤ q) st t
set_option maxRecDepth 20000 in
theorem zt_y : zm_mtL[164]? = some (yX10_led, cX10_led, 5, some .int, 10, 1) := rfl
set_option maxRecDepth 20000 in
set_option maxHeartbeats 4000000 in
theorem zt_met (hlt : l.stackTraces = false) {d : Nat} {as : List ZV} {hp h1 : ZH} (hF : zm_FC dC dI cy B ex X l d 164 (0, zm_en (zm_ml 164) as, [], hp) none h1) (hlen : (zm_fl as).length ≤ zm_ml 164) (hpre : ∃ t, h1.1 = hp.1 ++ t) :
    vx_Met l yX10_led (Cond.code yX10_led cX10_led 5 (some .int) :: zm_TW) (zm_rm d (h1.1.length + 1 - hp.1.length) (zm_ns h1.1 + 6 - zm_ns hp.1)) (va_Pc (as.map (zm_cv B ex)) (zm_Pr dC dI cy B ex X hp)) (fun _ _ _ _ => False) (zt_XC dC dI cy B ex h1) (h1.1.length + 1 - hp.1.length) (zm_ns h1.1 + 6 - zm_ns hp.1) (fun q => B ≤ q) := by
  obtain ⟨t0, et⟩ := hpre
  have n1 : zm_ns hp.1 ≤ zm_ns h1.1 := by rw [et]; exact zm_ns_mono
  have l1 : hp.1.length ≤ h1.1.length := by rw [et]; simp
  have hM := zt_y
  obtain ⟨f1, f2, f3, f4, f5, f6⟩ := zm_mt_facts hM
  have eby : zm_by 164 = cX10_led := rfl
  have eml : zm_ml 164 = 5 := rfl
  refine vx_ofW (cc := cX10_led) (maxL := 5) (ret := some .int) f5 rfl ?_
  intro p e s m args below meth c s₁ Bd hml htab hv
  obtain ⟨rfl, hW, hK, hBs, hE⟩ := hv
  have hts0 := atoms_spec (ws := Cond.code yX10_led cX10_led 5 (some .int) :: zm_TW) Bd.pre
  have hts : ∀ w ∈ zm_TW, w.before (as.map (zm_cv B ex)).toArray s = true := fun w hw => hts0 w (List.mem_cons_of_mem _ hw)
  have hown : s.vm.findClass (zm_cnm 164) = some m.cls := by rw [f1]; exact findClass_of_methodNamed Bd.named
  have hown2 : s.vm.findClass RX10 = some m.cls := findClass_of_methodNamed Bd.named
  have hnm : meth.name = zm_nm 164 := (name_of_methodNamed Bd.named Bd.method).1
  have hl := lv_entry (as.map (zm_cv B ex)) (n := 5) (by rw [zm_fl_len]; exact hlen)
  rw [lg_entry_eq]
  generalize (lg_sl (as.map (zm_cv B ex)) ++ List.replicate (5 - (lg_sl (as.map (zm_cv B ex))).length) Slot.unset).toArray = ls at hl ⊢
  have hL : zm_L B ex ls (zm_ml 164) (zm_en (zm_ml 164) as) := zm_L_entry B ex hlen hl
  have hlocks := Bd.notSynchronized
  have hr := Bd.returns
  refine hF p e _ s m _ below meth c s.heap [] 0 0 _ ls ⟨Bd.exec, Bd.bytes, hml, hown, hts, hK, hBs, ⟨hnm, fun q => absurd q (by decide)⟩, Nat.le_refl _, Nat.le_refl _, hE⟩ ⟨hW, va_S.rf, hL⟩ (by show 0 + (h1.1.length - hp.1.length) ≤ h1.1.length + 1 - hp.1.length; omega) (by show 0 + (zm_ns h1.1 - zm_ns hp.1) ≤ zm_ns h1.1 + 6 - zm_ns hp.1; omega) ?_
  intro pc1 loc1 st1 H1 locs1 ls1 hSt hend
  obtain ⟨hW1, hS1, hL1⟩ := hSt
  obtain ⟨-, rfl, rfl⟩ := zt_end hend
  simp only [Nat.zero_add]
  obtain ⟨-, -, -, hU, hN, -, xs, -, -, -, -, -, hB⟩ := hE
  refine vx_throw0 (rest := []) (names := zt_names) (cls := zt_N) (A := fun q => B ≤ q) Bd.exec Bd.bytes hlt hown2 (by decide +kernel) (by decide +kernel) (hts _ zt_cl) (hts _ zt_ini) ?_ ?_ hU hN hS1 (by rw [hml]; exact hL1.1) zt_d74 zt_d77 zt_d78 zt_d81 (fun x hx => (htab x hx).elim) ?_ ?_ ?_ ?_ hlocks ?_ hS1.2.2 ?_ ?_
  · refine vx_hat (B := zt_B) (fun w hw => ?_) (fun w hw => ?_) (fun w hw => ?_)
    · obtain ⟨q1, q2⟩ := List.mem_filter.mp hw
      exact hts _ (zm_t (of_decide_eq_true (List.all_eq_true.mp zt_in w q1)) q2)
    · exact of_decide_eq_true (List.all_eq_true.mp zt_nb w hw)
    · refine va_Nw.use ?_ (hB w hw)
      simp only [zt_B, List.mem_cons, List.not_mem_nil, or_false] at hw
      rcases hw with rfl | rfl | rfl | rfl | rfl | rfl | rfl <;> rfl
  · intro w hw
    rcases List.mem_cons.mp hw with rfl | hw
    · rfl
    · rcases List.mem_cons.mp hw with rfl | hw
      · rfl
      · exact List.all_eq_true.mp zt_ot w hw
  · show 2 + 3 < d + 20
    omega
  · show 0 + (13 * (2 + 1) + 42) ≤ (d + 1) * 64 + 1000
    exact Nat.le_trans (by decide : 0 + (13 * (2 + 1) + 42) ≤ 1000) (Nat.le_add_left _ _)
  · show h1.1.length - hp.1.length + 1 ≤ h1.1.length + 1 - hp.1.length
    omega
  · show zm_ns h1.1 - zm_ns hp.1 + 6 ≤ zm_ns h1.1 + 6 - zm_ns hp.1
    omega
  · intro t ht hz hk
    exact ⟨rfl, hW1.exc hk, ⟨Nat.le_trans hS1.1 hz, fun q g1 g2 => by rw [hk q (Nat.lt_of_lt_of_le g1 hS1.1)]; exact hS1.2.1 q g1 g2⟩⟩
  · omega
  · omega
set_option maxRecDepth 20000 in
set_option maxHeartbeats 4000000 in
theorem zm_TR_ok : zm_TR := by
  intro dC dI cy B ex X d M M' pc' p l e R s m args below meth c H locs cells slots Q pc ls loc loc' st as rest hp h1 hlt C S h hhd hF hpre hc0 hs0 k
  obtain ⟨hx, hb, hml, hown, hts, hK, hBs, hnm, hfr, hlo, hE⟩ := id C
  obtain ⟨hW, hS, hl⟩ := id S
  unfold zm_hd at hhd
  split at hhd
  next hq =>
    obtain ⟨rfl, hpc⟩ := hq
    obtain ⟨l9, hs9, e9⟩ := Option.map_eq_some_iff.mp hhd
    simp only [Prod.mk.injEq] at e9
    obtain ⟨rfl, rfl⟩ := e9
    obtain ⟨i, kind, y, hk2, hf, hcall, d0, d1, d2⟩ := zm_stp_call h
    have eby : zm_by 317 = cL_led := rfl
    rw [eby] at d0 d1 d2
    have h4 : pc = 4 ∧ kind = 0 ∧ i = 7 := by
      have key : ∀ ins n, decode cL_led pc = .ok (ins, n) → (∀ i, ins ≠ .invokevirtual i) → (∀ i, ins ≠ .invokestatic i) → (∀ i, ins ≠ .invokespecial i) → False := by
        intro ins n hd a1 a2 a3
        rcases (show kind = 0 ∨ kind = 1 ∨ kind = 2 by omega) with q | q | q
        · have := d0 q; rw [hd] at this; cases this; exact a1 _ rfl
        · have := d1 q; rw [hd] at this; cases this; exact a2 _ rfl
        · have := d2 q; rw [hd] at this; cases this; exact a3 _ rfl
      rcases (show pc = 0 ∨ pc = 1 ∨ pc = 2 ∨ pc = 3 ∨ pc = 4 ∨ pc = 5 ∨ pc = 6 ∨ pc = 7 ∨ pc = 8 by omega) with rfl | rfl | rfl | rfl | rfl | rfl | rfl | rfl | rfl
      · exact (key _ _ zt_l0 (fun _ q => by cases q) (fun _ q => by cases q) (fun _ q => by cases q)).elim
      · exact (key _ _ zt_l1 (fun _ q => by cases q) (fun _ q => by cases q) (fun _ q => by cases q)).elim
      · exact (key _ _ zt_l2 (fun _ q => by cases q) (fun _ q => by cases q) (fun _ q => by cases q)).elim
      · exact (key _ _ zt_l3 (fun _ q => by cases q) (fun _ q => by cases q) (fun _ q => by cases q)).elim
      · rcases (show kind = 0 ∨ kind = 1 ∨ kind = 2 by omega) with q | q | q
        · have := d0 q; rw [zt_l4] at this; cases this; exact ⟨rfl, q, rfl⟩
        · have := d1 q; rw [zt_l4] at this; cases this
        · have := d2 q; rw [zt_l4] at this; cases this
      · exfalso
        have h5 := zt_l56.1
        rcases (show kind = 0 ∨ kind = 1 ∨ kind = 2 by omega) with q | q | q
        · have := d0 q; rw [this] at h5; cases h5
        · have := d1 q; rw [this] at h5; cases h5
        · have := d2 q; rw [this] at h5; cases h5
      · exfalso
        have h5 := zt_l56.2
        rcases (show kind = 0 ∨ kind = 1 ∨ kind = 2 by omega) with q | q | q
        · have := d0 q; rw [this] at h5; cases h5
        · have := d1 q; rw [this] at h5; cases h5
        · have := d2 q; rw [this] at h5; cases h5
      · exact (key _ _ zt_l7 (fun _ q => by cases q) (fun _ q => by cases q) (fun _ q => by cases q)).elim
      · exact (key _ _ zt_l8 (fun _ q => by cases q) (fun _ q => by cases q) (fun _ q => by cases q)).elim
    obtain ⟨rfl, rfl, rfl⟩ := h4
    rw [zt_lk] at hf
    simp only [Option.some.injEq, Prod.mk.injEq, true_and] at hf
    obtain ⟨rfl, rfl⟩ := hf
    obtain ⟨-, eas, erest, hn, -, hcs, hfl, hrcv⟩ := zm_call_ok hcall
    obtain ⟨hw, -⟩ := zm_lk_word zt_lk
    obtain ⟨f1, f2, f3, f4, f5, f6⟩ := zm_mt_facts zt_y
    obtain ⟨ok1, ok2⟩ := zm_mok zt_y (by decide)
    have hmet := zt_met hlt hF hfl hpre
    have hlen : as.length = zm_cn2 0 164 := by rw [eas, List.length_reverse, List.length_take, Nat.min_eq_left hn]
    have hsplit := zm_map_split (B := B) (ex := ex) (zm_cn2 0 164) st
    rw [← eas, ← erest] at hsplit
    have hPr : ∀ U : State, U.heap = H → s.WarmedH U.vm → zm_Pr dC dI cy B ex X hp U := fun U hU hWm => ⟨by rw [hU]; exact hW, va_K.moved hWm.alike hK, by rw [hU]; exact Nat.le_trans hBs hS.1, by rw [hU]; exact hE.go hWm (fun a g1 g2 => hS.2.1 a g1 g2) hS.1⟩
    rcases hrcv with q | q
    · cases q
    · unfold zm_rcv at q
      split at q
      next o1 r1 =>
        have q := of_decide_eq_true q
        obtain ⟨hi, hse⟩ := hw.2.1 rfl
        have hat := hW.2 o1 _ q (by decide)
        rw [zm_ce_obj (q := (zm_oc 164, zm_nF (zm_oc 164))) (by decide)] at hat
        have hrec := va_recv (q0 := 0) (a := B + o1) (q := (RX10, TX10, 13)) hK (zm_one hat) rfl rfl
        have hlen1 : (r1.map (zm_cv B ex)).length = 1 := by
          have h9 : (r1.map (zm_cv B ex)).length + 1 = zm_na 164 + 1 := by simpa [zm_cn2] using hlen
          have e1 : zm_na 164 = 1 := rfl
          omega
        have hrun := vx_runV (e := e) (As := r1.map (zm_cv B ex)) (b := B + o1) (rest := rest.map (zm_cv B ex)) (g := F0 m 4 ls (st.map (zm_cv B ex))) (R := R) (H := H) (locs := locs) (cells := cells) (slots := slots) (below := below) (meth := meth) ⟨hx, hb, hml, hown, hts⟩ hmet (cwV 1 (C := RX10) hts (js_gv ok1 hw.1 hi hse ok2) rfl rfl rfl ⟨rfl, f2, f3, f4⟩ ⟨by show d + 20 + 1 ≤ _; omega, zm_roomL (by decide : 5 ≤ 40) hlo⟩) ⟨zm_Pr_blind, hrec, fun U hU hWm => ⟨rfl, hPr U hU hWm⟩⟩ rfl hlen1 (by rw [hl.1]) (by show st.map (zm_cv B ex) = _; rw [hsplit]; simp [zm_cv]) (by rw [zm_csum_eq]; show 2 * 0 + _ ≤ 8; omega) (d0 rfl) ⟨hc0, hs0⟩
        intro T hT XX
        rcases hrun T hT XX with ⟨v, st₀, t, T', L, -, -, -, -, -, hfalse, -⟩ | ⟨q9, st₀, t, T', L, E, ce, h0, X', hL, e1, e2, ⟨rfl, hw9, hz, hk⟩, hcell, hvm, hcl, st9⟩
        · exact hfalse.elim
        · rw [h0] at hz hk
          have hS9 : va_S (fun q => B ≤ q) s.heap T'.heap (locs ++ L) := ⟨Nat.le_trans hS.1 (by rw [e1]; exact hz), fun q g1 g2 => by rw [e1, hk q (Nat.lt_of_lt_of_le g1 hS.1) g2]; exact hS.2.1 q g1 g2, fun q hq => by
              rcases List.mem_append.mp hq with h | h
              · exact hS.2.2 q h
              · exact hL q h⟩
          have hcast : (Cond.castable zt_N zt_N).before args s = true := by
            obtain ⟨-, -, -, -, -, -, xs, -, -, -, -, -, hB⟩ := hE
            exact va_Nw.use rfl (hB _ (by simp [zt_B]))
          have hx9 : vx_W p l e R s m args below meth c T'.heap (locs ++ L) (cells + (h1.1.length + 1 - hp.1.length)) (slots + (zm_ns h1.1 + 6 - zm_ns hp.1)) Q (F0 m 4 ls (rest.map (zm_cv B ex))) q9 := by
            refine vx_catch (own := RL) (name := zt_N) (E := zt_N) hown [] ⟨0, 9, 12, 13⟩ [] (by rw [hnm.2 rfl]; rfl) (fun z hz => by cases hz) (by decide) (by decide) (hts _ zt_cll) hcast (by rw [e1]; exact hcell) hvm hcl ?_
            refine lv_astore_n hx hb zt_l12 rfl hl.has (show 3 < zm_ml 317 by decide) rfl (fun ls' hl' => ?_)
            exact k T'.heap (locs ++ L) ls' ⟨by rw [e1]; exact hw9, hS9, hl.sJ hs9 hl'⟩
          obtain ⟨t2, a1, b1⟩ := hx9 T' rfl X'
          exact ⟨t2, st9.trans a1, b1⟩
      next => cases q
  next => cases hhd
set_option maxRecDepth 20000 in
theorem zt_yl : zm_mtL[317]? = some (yL_led, cL_led, 4, some .int, 12, 3) := rfl
set_option maxRecDepth 20000 in
set_option maxHeartbeats 4000000 in
theorem zt_metL {d : Nat} {as o : List ZV} {hp hp' : ZH} (hF : zm_FC dC dI cy B ex X l d 317 (0, zm_en (zm_ml 317) as, [], hp) (some o) hp') (hlen : (zm_fl as).length ≤ zm_ml 317) :
    vx_Met l yL_led (Cond.codeWith yL_led cL_led 4 (some .int) [(0, 9, 12, 13)] :: zm_TW) (zm_rm d (hp'.1.length - hp.1.length) (zm_ns hp'.1 - zm_ns hp.1)) (va_Pc (as.map (zm_cv B ex)) (zm_Pr dC dI cy B ex X hp)) (zm_Qo dC dI cy B ex o hp') (fun _ _ _ => False) (hp'.1.length - hp.1.length) (zm_ns hp'.1 - zm_ns hp.1) (fun q => B ≤ q) := by
  have hM := zt_yl
  obtain ⟨f1, f2, f3, f4, f5, f6⟩ := zm_mt_facts hM
  refine vx_ofWH (cc := cL_led) (maxL := 4) (ret := some .int) f5 rfl ?_
  intro p e s m args below meth c s₁ Bd hml hv
  obtain ⟨rfl, hW, hK, hBs, hE⟩ := hv
  have hts0 := atoms_spec (ws := Cond.codeWith yL_led cL_led 4 (some .int) [(0, 9, 12, 13)] :: zm_TW) Bd.pre
  have hts : ∀ w ∈ zm_TW, w.before (as.map (zm_cv B ex)).toArray s = true := fun w hw => hts0 w (List.mem_cons_of_mem _ hw)
  have hown : s.vm.findClass (zm_cnm 317) = some m.cls := by rw [f1]; exact findClass_of_methodNamed Bd.named
  have hnm : meth.name = zm_nm 317 := (name_of_methodNamed Bd.named Bd.method).1
  have htab : c.exceptionTable.toList = tableOf [(0, 9, 12, 13)] := vx_table (x := yL_led) Bd (hts0 _ List.mem_cons_self)
  have hl := lv_entry (as.map (zm_cv B ex)) (n := 4) (by rw [zm_fl_len]; exact hlen)
  rw [lg_entry_eq]
  generalize (lg_sl (as.map (zm_cv B ex)) ++ List.replicate (4 - (lg_sl (as.map (zm_cv B ex))).length) Slot.unset).toArray = ls at hl ⊢
  have hL : zm_L B ex ls (zm_ml 317) (zm_en (zm_ml 317) as) := zm_L_entry B ex hlen hl
  have hlocks := Bd.notSynchronized
  have hr := Bd.returns
  refine hF p e _ s m _ below meth c s.heap [] 0 0 _ ls ⟨Bd.exec, Bd.bytes, hml, hown, hts, hK, hBs, ⟨hnm, fun _ => htab⟩, Nat.le_refl _, Nat.le_refl _, hE⟩ ⟨hW, va_S.rf, hL⟩ (Nat.le_of_eq (Nat.zero_add _)) (Nat.le_of_eq (Nat.zero_add _)) ?_
  intro pc1 loc1 st1 H1 locs1 ls1 hSt hend
  obtain ⟨hW1, hS1, -⟩ := hSt
  simp only [Nat.zero_add]
  have hF9 : ∀ t : State, t.heap = H1 → va_F (fun q => B ≤ q) s t := fun t ht => hS1.F ht
  rcases zm_end hend with ⟨z, rfl, rfl, hd, hrt⟩ | ⟨z, rfl, rfl, hd, hrt, hz⟩ | ⟨z, rfl, rfl, hd, hrt⟩ | ⟨rfl, rfl, hd, hrt⟩
  · exact vx_ret (W.iret Bd.exec Bd.bytes hr (fun t ht hw => ⟨rfl, by rw [ht]; exact hW1, hF9 t ht⟩) hS1.2.2 hd)
  · cases hrt
  · cases hrt
  · cases hrt
set_option maxRecDepth 20000 in
set_option maxHeartbeats 4000000 in
theorem zm_CR_ok : zm_CR := by
  intro dC dI cy B ex X d M p l e R s m args below meth c H locs cells slots Q pc ls loc st as rest hp h1 o C S h hF hc0 hs0 k
  obtain ⟨hx, hb, hml, hown, hts, hK, hBs, hnm, hfr, hlo, hE⟩ := id C
  obtain ⟨hW, hS, hl⟩ := id S
  obtain ⟨i, kind, y, hk2, hf, hcall, d0, d1, d2⟩ := zm_stp_call h
  obtain ⟨-, eas, erest, hn, -, hcs, hfl, hrcv⟩ := zm_call_ok hcall
  obtain ⟨hw, hmy⟩ := zm_lk_word hf
  have ey : yL_led = y := by
    have := hmy (by omega)
    rw [zt_yl] at this
    exact Option.some.inj this
  subst ey
  obtain ⟨f1, f2, f3, f4, f5, f6⟩ := zm_mt_facts zt_yl
  have hkind : kind = 1 := zt_k317 hf (by omega)
  subst hkind
  have hst := hw.2.2.1 rfl
  have hmet := zt_metL hF hfl
  have hlen : as.length = zm_cn2 1 317 := by rw [eas, List.length_reverse, List.length_take, Nat.min_eq_left hn]
  have hsplit := zm_map_split (B := B) (ex := ex) (zm_cn2 1 317) st
  rw [← eas, ← erest] at hsplit
  have hPr : ∀ U : State, U.heap = H → s.WarmedH U.vm → zm_Pr dC dI cy B ex X hp U := fun U hU hWm => ⟨by rw [hU]; exact hW, va_K.moved hWm.alike hK, by rw [hU]; exact Nat.le_trans hBs hS.1, by rw [hU]; exact hE.go hWm (fun a g1 g2 => hS.2.1 a g1 g2) hS.1⟩
  have hcw : vx_CSW R s args (zm_cnm M) i yL_led cL_led 4 (some .int) [(0, 9, 12, 13)] (Cond.codeWith yL_led cL_led 4 (some .int) [(0, 9, 12, 13)] :: zm_TW) (zm_rm d (h1.1.length - hp.1.length) (zm_ns h1.1 - zm_ns hp.1)) (h1.1.length - hp.1.length) (zm_ns h1.1 - zm_ns hp.1) 3 := by
    refine vx_cwSW 3 hts (zm_good (fun w hw9 => ?_)) rfl rfl rfl ⟨f2, f3, f4⟩ ⟨by show d + 20 + 1 ≤ _; omega, zm_roomL (by decide : 4 ≤ 40) hlo⟩
    rcases List.mem_append.mp hw9 with z | z
    · simp only [List.mem_cons, List.not_mem_nil, or_false] at z
      rcases z with z | z | z
      · rw [z]; exact hw.1
      · rw [z]; exact hst
      · rw [z]; exact zt_li
    · rcases List.mem_cons.mp z with q | q
      · rw [q]; exact zt_cw
      · exact q
  have hrun := vx_runSX (e := e) (As := as.map (zm_cv B ex)) (rest := rest.map (zm_cv B ex)) (g := F0 m pc ls (st.map (zm_cv B ex))) (R := R) (H := H) (locs := locs) (cells := cells) (slots := slots) (below := below) (meth := meth) ⟨hx, hb, hml, hown, hts⟩ hmet hcw ⟨zm_Pr_blind, fun U hU hWm => ⟨rfl, hPr U hU hWm⟩⟩ rfl (by rw [List.length_map, hlen]; rfl) (by rw [hl.1]) hsplit (by rw [zm_csum_eq]; show 2 * 0 + _ ≤ 8; omega) (d1 rfl) ⟨hc0, hs0⟩
  refine zm_callk (h1 := h1) (o := o) (a := (as.map (zm_cv B ex)).toArray) (rs := rest.map (zm_cv B ex)) (mc := h1.1.length - hp.1.length) (ms := zm_ns h1.1 - zm_ns hp.1) (dC := dC) (dI := dI) (cy := cy) (fun T hT XX => ?_) hS (fun H1 locs1 w1 w2 => k H1 locs1 ⟨w1, w2, hl⟩)
  rcases hrun T hT XX with hh | ⟨q9, st₀, t, T', L, E, ce, -, -, -, -, -, hfalse, -⟩
  · exact hh
  · exact hfalse.elim
end ZX

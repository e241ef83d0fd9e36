/-! what an abstract state says of the machine's -/
def zm_cv (B : Nat) (ex : Nat → Nat) (v : ZV) : Value := match v with
  | .inl z => .int (Int32.ofInt z)
  | .inr (.inl z) => .long (Int64.ofInt z)
  | .inr (.inr (.inl i)) => .ref (B + i)
  | .inr (.inr (.inr (.inl k))) => .ref (ex k)
  | .inr (.inr (.inr (.inr _))) => .null
theorem zm_cv_cat (B : Nat) (ex : Nat → Nat) (v : ZV) : (zm_cv B ex v).category = zm_cat v := by
  rcases v with z | z | i | k | b <;> rfl
theorem zm_cv_cat1 {B : Nat} {ex : Nat → Nat} {v : ZV} (h : zm_isL v = false) : (zm_cv B ex v).category = 1 := by
  rw [zm_cv_cat]
  simp [zm_cat, h]
theorem zm_csum_eq (B : Nat) (ex : Nat → Nat) (st : List ZV) : ((st.map (zm_cv B ex)).map fun v => v.category).sum = zm_csum st := by
  simp only [List.map_map, zm_csum]
  congr 1
  apply List.map_congr_left
  intro v _
  exact zm_cv_cat B ex v
def zm_ce (B : Nat) (ex : Nat → Nat) (cy : Nat → ClassId) (sh : Nat × Nat) (f : Nat → Int) : va_E :=
  if sh.1 < 12 then .inr (sh.1, (List.range sh.2).map (fun k => zm_cv B ex (zm_fv (zm_tyF sh.1 k) (f k))))
  else if sh.1 = 23 then .inl (cy 23, sh.2, .inr (.inl (fun j => Int64.ofInt (f j))))
  else .inl (cy sh.1, sh.2, .inl (fun j => Int32.ofInt (f j)))
def zm_W (dC : Nat → ClassId) (dI : Nat → Nat → Nat) (cy : Nat → ClassId) (B : Nat) (ex : Nat → Nat) (h : ZH) (H : Heap) : Prop :=
  (zm_no30 h.1 = true → H.size = B + h.1.length) ∧ ∀ (i : Nat) (q : Nat × Nat), h.1[i]? = some q → q.1 ≠ 30 → va_at (dC, dI) vwCl (B + i, zm_ce B ex cy q (h.2 i)) H
abbrev zm_tys (cy : Nat → ClassId) : List (ClassId × FieldType) := [(cy 20, .int), (cy 21, .byte), (cy 22, .boolean), (cy 23, .long)]
/-- the locals -/
def zm_L (B : Nat) (ex : Nat → Nat) (ls : Array Slot) (nL : Nat) (loc : List ZV) : Prop :=
  ls.size = nL ∧ lv_wf ls ∧ loc.length = nL ∧ ∀ (i : Nat) (v : ZV), loc[i]? = some v → v ≠ vJ → ls[i]? = some (.val (zm_cv B ex v))
def zm_lvl (B : Nat) (ex : Nat → Nat) (loc : List ZV) : List (Nat × Value) := (List.range loc.length).filterMap (fun i => match loc[i]? with
  | some v => if v = vJ then none else some (i, zm_cv B ex v)
  | none => none)
theorem zm_lvl_mem {B : Nat} {ex : Nat → Nat} {loc : List ZV} {q : Nat × Value} : q ∈ zm_lvl B ex loc ↔ ∃ v, loc[q.1]? = some v ∧ v ≠ vJ ∧ q.2 = zm_cv B ex v := by
  unfold zm_lvl
  rw [List.mem_filterMap]
  constructor
  · rintro ⟨i, hi, h⟩
    cases hv : loc[i]? with
    | none => simp [hv] at h
    | some v =>
      simp only [hv] at h
      by_cases hj : v = vJ
      · simp [hj] at h
      · rw [if_neg hj] at h
        cases h
        exact ⟨v, hv, hj, rfl⟩
  · rintro ⟨v, hv, hj, h⟩
    refine ⟨q.1, List.mem_range.mpr (List.getElem?_eq_some_iff.mp hv).1, ?_⟩
    simp only [hv]
    rw [if_neg hj]
    cases q
    simp at h ⊢
    exact h.symm
theorem zm_L.has {B : Nat} {ex : Nat → Nat} {ls : Array Slot} {nL : Nat} {loc : List ZV} (h : zm_L B ex ls nL loc) : lv_has ls nL (zm_lvl B ex loc) := by
  refine ⟨h.1, h.2.1, fun q hq => ?_⟩
  obtain ⟨v, h1, h2, h3⟩ := zm_lvl_mem.mp hq
  rw [h3]
  exact h.2.2.2 _ v h1 h2
theorem zm_L.at {B : Nat} {ex : Nat → Nat} {ls : Array Slot} {nL : Nat} {loc : List ZV} (h : zm_L B ex ls nL loc) {i : Nat} {v : ZV} (hv : loc[i]? = some v) (hj : v ≠ vJ) : ls[i]? = some (.val (zm_cv B ex v)) := h.2.2.2 i v hv hj
theorem zm_isL_iff {B : Nat} {ex : Nat → Nat} {v : ZV} : (zm_cv B ex v).category = 2 ↔ zm_isL v = true := by
  rcases v with z | z | i | k | b <;> simp [zm_cv, zm_isL, Value.category]
/-- a word stored -/
theorem zm_L.s1 {B : Nat} {ex : Nat → Nat} {ls ls' : Array Slot} {nL : Nat} {loc loc' : List ZV} {i : Nat} {v : ZV} (h : zm_L B ex ls nL loc) (hv : zm_s1 loc i v = some loc') (hl : lv_has ls' nL ((i, zm_cv B ex v) :: (zm_lvl B ex loc).filter (fun q => !(q.1 == i) && !(q.1 + 1 == i && q.2.category == 2)))) : zm_L B ex ls' nL loc' := by
  have hlen : i < loc.length := by
    unfold zm_s1 at hv
    split at hv
    next h => exact h
    next => cases hv
  have key : loc'.length = loc.length ∧ ∀ j w, loc'[j]? = some w → w ≠ vJ → (j = i ∧ w = v) ∨ (j ≠ i ∧ loc[j]? = some w ∧ ¬ (j + 1 = i ∧ zm_isL w = true)) := by
    unfold zm_s1 at hv
    rw [if_pos hlen] at hv
    cases i with
    | zero =>
      simp only [Option.some.injEq] at hv
      subst hv
      refine ⟨by simp, fun j w hw hj => ?_⟩
      by_cases e : j = 0
      · subst e
        left
        rw [List.getElem?_set_self hlen] at hw
        exact ⟨rfl, (Option.some.inj hw).symm⟩
      · right
        rw [List.getElem?_set_ne (Ne.symm e)] at hw
        exact ⟨e, hw, fun q => by omega⟩
    | succ n =>
      simp only at hv
      split at hv
      next z hz =>
        cases hv
        refine ⟨by simp, fun j w hw hj => ?_⟩
        by_cases e : j = n + 1
        · subst e
          left
          rw [List.getElem?_set_self (by simpa using hlen)] at hw
          exact ⟨rfl, (Option.some.inj hw).symm⟩
        · right
          rw [List.getElem?_set_ne (Ne.symm e)] at hw
          by_cases e2 : j = n
          · subst e2
            rw [List.getElem?_set_self (by omega)] at hw
            exact absurd (Option.some.inj hw).symm hj
          · rw [List.getElem?_set_ne (Ne.symm e2)] at hw
            exact ⟨e, hw, fun q => by omega⟩
      next hno =>
        cases hv
        refine ⟨by simp, fun j w hw hj => ?_⟩
        by_cases e : j = n + 1
        · subst e
          left
          rw [List.getElem?_set_self hlen] at hw
          exact ⟨rfl, (Option.some.inj hw).symm⟩
        · right
          rw [List.getElem?_set_ne (Ne.symm e)] at hw
          refine ⟨e, hw, fun q => ?_⟩
          obtain ⟨q1, q2⟩ := q
          have e2 : j = n := by omega
          subst e2
          rcases w with z | z | o | k | b <;> simp [zm_isL] at q2
          exact hno z hw
  refine ⟨hl.1, hl.2.1, by rw [key.1]; exact h.2.2.1, fun j w hw hj => ?_⟩
  rcases key.2 j w hw hj with ⟨rfl, rfl⟩ | ⟨h1, h2, h3⟩
  · exact hl.2.2 (j, zm_cv B ex w) List.mem_cons_self
  · refine hl.2.2 (j, zm_cv B ex w) (List.mem_cons_of_mem _ (List.mem_filter.mpr ⟨zm_lvl_mem.mpr ⟨w, h2, hj, rfl⟩, ?_⟩))
    simp only [Bool.and_eq_true, Bool.not_eq_true', beq_eq_false_iff_ne, Bool.and_eq_false_iff]
    refine ⟨h1, ?_⟩
    by_cases e : j + 1 = i
    · right
      intro q
      exact h3 ⟨e, zm_isL_iff.mp q⟩
    · exact Or.inl e
theorem zm_L.s2 {B : Nat} {ex : Nat → Nat} {ls ls' : Array Slot} {nL : Nat} {loc loc' : List ZV} {i : Nat} {v : ZV} (h : zm_L B ex ls nL loc) (hv : zm_s2 loc i v = some loc') (hl : lv_has ls' nL ((i, zm_cv B ex v) :: (zm_lvl B ex loc).filter (fun q => !(q.1 == i) && (!(q.1 == i + 1) && !(q.1 + 1 == i && q.2.category == 2))))) : zm_L B ex ls' nL loc' := by
  unfold zm_s2 at hv
  split at hv
  next hlen =>
    obtain ⟨l1, h1, h2⟩ := Option.map_eq_some_iff.mp hv
    subst h2
    have hh : ∀ j w, l1[j]? = some w → w ≠ vJ → (j = i ∧ w = v) ∨ (j ≠ i ∧ loc[j]? = some w ∧ ¬ (j + 1 = i ∧ zm_isL w = true)) := by
      intro j w hw hj
      have hlen0 : i < loc.length := by omega
      unfold zm_s1 at h1
      rw [if_pos hlen0] at h1
      cases i with
      | zero =>
        simp only [Option.some.injEq] at h1
        subst h1
        by_cases e : j = 0
        · subst e
          left
          rw [List.getElem?_set_self hlen0] at hw
          exact ⟨rfl, (Option.some.inj hw).symm⟩
        · right
          rw [List.getElem?_set_ne (Ne.symm e)] at hw
          exact ⟨e, hw, fun q => by omega⟩
      | succ n =>
        simp only at h1
        split at h1
        next z hz =>
          cases h1
          by_cases e : j = n + 1
          · subst e
            left
            rw [List.getElem?_set_self (by simpa using hlen0)] at hw
            exact ⟨rfl, (Option.some.inj hw).symm⟩
          · right
            rw [List.getElem?_set_ne (Ne.symm e)] at hw
            by_cases e2 : j = n
            · subst e2
              rw [List.getElem?_set_self (by omega)] at hw
              exact absurd (Option.some.inj hw).symm hj
            · rw [List.getElem?_set_ne (Ne.symm e2)] at hw
              exact ⟨e, hw, fun q => by omega⟩
        next hno =>
          cases h1
          by_cases e : j = n + 1
          · subst e
            left
            rw [List.getElem?_set_self hlen0] at hw
            exact ⟨rfl, (Option.some.inj hw).symm⟩
          · right
            rw [List.getElem?_set_ne (Ne.symm e)] at hw
            refine ⟨e, hw, fun q => ?_⟩
            obtain ⟨q1, q2⟩ := q
            have e2 : j = n := by omega
            subst e2
            rcases w with z | z | o | k | b <;> simp [zm_isL] at q2
            exact hno z hw
    have hl1 : l1.length = loc.length := by
      unfold zm_s1 at h1
      rw [if_pos (by omega)] at h1
      split at h1
      · cases h1; simp
      · split at h1 <;> cases h1 <;> simp
    refine ⟨hl.1, hl.2.1, by rw [List.length_set, hl1]; exact h.2.2.1, fun j w hw hj => ?_⟩
    by_cases e : j = i + 1
    · subst e
      rw [List.getElem?_set_self (by omega)] at hw
      exact absurd (Option.some.inj hw).symm hj
    · rw [List.getElem?_set_ne (Ne.symm e)] at hw
      rcases hh j w hw hj with ⟨rfl, rfl⟩ | ⟨g1, g2, g3⟩
      · exact hl.2.2 (j, zm_cv B ex w) List.mem_cons_self
      · refine hl.2.2 (j, zm_cv B ex w) (List.mem_cons_of_mem _ (List.mem_filter.mpr ⟨zm_lvl_mem.mpr ⟨w, g2, hj, rfl⟩, ?_⟩))
        simp only [Bool.and_eq_true, Bool.not_eq_true', beq_eq_false_iff_ne, Bool.and_eq_false_iff]
        refine ⟨g1, e, ?_⟩
        by_cases e3 : j + 1 = i
        · right
          intro q
          exact g3 ⟨e3, zm_isL_iff.mp q⟩
        · exact Or.inl e3
  next => cases hv
theorem zm_s1_lt {loc loc' : List ZV} {i : Nat} {v : ZV} (h : zm_s1 loc i v = some loc') : i < loc.length := by
  rcases Nat.lt_or_ge i loc.length with q | q
  · exact q
  · unfold zm_s1 at h
    rw [if_neg (by omega)] at h
    cases h
theorem zm_s2_lt {loc loc' : List ZV} {i : Nat} {v : ZV} (h : zm_s2 loc i v = some loc') : i + 1 < loc.length := by
  rcases Nat.lt_or_ge (i + 1) loc.length with q | q
  · exact q
  · unfold zm_s2 at h
    rw [if_neg (by omega)] at h
    cases h
/-! what the tables give -/
theorem zm_lookup_mem {α : Type} {l : List (Nat × α)} {i : Nat} {v : α} (h : l.lookup i = some v) : (i, v) ∈ l := by
  induction l with
  | nil => cases h
  | cons a l ih =>
    obtain ⟨j, w⟩ := a
    rw [List.lookup_cons] at h
    by_cases e : i = j
    · subst e
      simp at h
      subst h
      exact List.mem_cons_self
    · rw [show (i == j) = false by simpa using e] at h
      exact List.mem_cons_of_mem _ (ih h)
theorem zm_find_mem {α : Type} {t : List (List (Nat × α))} {o i : Nat} {v : α} (h : zm_find t o i = some v) : ∃ l, t[o]? = some l ∧ (i, v) ∈ l := by
  unfold zm_find at h
  cases ht : t[o]? with
  | none => simp [ht] at h
  | some l =>
    simp only [ht] at h
    exact ⟨l, rfl, zm_lookup_mem h⟩
def zm_cnm (M : Nat) : String := zm_cn.getD (zm_oc M) ""
theorem zm_kcT_ok (o : Nat) (l : List (Nat × Nat × Int)) (h : zm_kcT[o]? = some l) : ∀ e ∈ l, zm_okK (zm_cn.getD o "") e := by
  match o, h with
  | 0, h => cases h; exact zm_ko_0
  | 1, h => cases h; exact zm_ko_1
  | 2, h => cases h; exact zm_ko_2
  | 3, h => cases h; exact zm_ko_3
  | 4, h => cases h; exact zm_ko_4
  | 5, h => cases h; exact zm_ko_5
  | 6, h => cases h; exact zm_ko_6
  | 7, h => cases h; exact zm_ko_7
  | 8, h => cases h; exact zm_ko_8
  | 9, h => cases h; exact zm_ko_9
  | 10, h => cases h; exact zm_ko_10
  | 11, h => cases h; exact zm_ko_11
  | 12, h => cases h; exact zm_ko_12
  | o + 13, h => simp [zm_kcT] at h
theorem zm_lkT_ok (o : Nat) (l : List zm_LK) (h : zm_lkT[o]? = some l) : ∀ e ∈ l, zm_okL (zm_cn.getD o "") e := by
  match o, h with
  | 0, h => cases h; exact zm_lo_0
  | 1, h => cases h; exact zm_lo_1
  | 2, h => cases h; exact zm_lo_2
  | 3, h => cases h; exact zm_lo_3
  | 4, h => cases h; exact zm_lo_4
  | 5, h => cases h; exact zm_lo_5
  | 6, h => cases h; exact zm_lo_6
  | 7, h => cases h; exact zm_lo_7
  | 8, h => cases h; exact zm_lo_8
  | 9, h => cases h; exact zm_lo_9
  | 10, h => cases h; exact zm_lo_10
  | 11, h => cases h; exact zm_lo_11
  | 12, h => cases h; exact zm_lo_12
  | o + 13, h => simp [zm_lkT] at h
theorem zm_fkT_ok (o : Nat) (l : List (Nat × Nat × Nat)) (h : zm_fkT[o]? = some l) : ∀ e ∈ l, zm_okF (zm_cn.getD o "") e := by
  match o, h with
  | 0, h => cases h; exact zm_fo_0
  | 1, h => cases h; exact zm_fo_1
  | 2, h => cases h; exact zm_fo_2
  | 3, h => cases h; exact zm_fo_3
  | 4, h => cases h; exact zm_fo_4
  | 5, h => cases h; exact zm_fo_5
  | 6, h => cases h; exact zm_fo_6
  | 7, h => cases h; exact zm_fo_7
  | 8, h => cases h; exact zm_fo_8
  | 9, h => cases h; exact zm_fo_9
  | 10, h => cases h; exact zm_fo_10
  | 11, h => cases h; exact zm_fo_11
  | 12, h => cases h; exact zm_fo_12
  | o + 13, h => simp [zm_fkT] at h
theorem zm_ckT_ok (o : Nat) (l : List (Nat × Nat)) (h : zm_ckT[o]? = some l) : ∀ e ∈ l, zm_okC (zm_cn.getD o "") e := by
  match o, h with
  | 0, h => cases h; exact zm_co_0
  | 1, h => cases h; exact zm_co_1
  | 2, h => cases h; exact zm_co_2
  | 3, h => cases h; exact zm_co_3
  | 4, h => cases h; exact zm_co_4
  | 5, h => cases h; exact zm_co_5
  | 6, h => cases h; exact zm_co_6
  | 7, h => cases h; exact zm_co_7
  | 8, h => cases h; exact zm_co_8
  | 9, h => cases h; exact zm_co_9
  | 10, h => cases h; exact zm_co_10
  | 11, h => cases h; exact zm_co_11
  | 12, h => cases h; exact zm_co_12
  | o + 13, h => simp [zm_ckT] at h
theorem zm_kc_word {M i k : Nat} {z : Int} (h : zm_find zm_kcT (zm_oc M) i = some (k, z)) : zm_okK (zm_cnm M) (i, k, z) := by
  obtain ⟨l, h1, h2⟩ := zm_find_mem h
  exact zm_kcT_ok _ l h1 _ h2
theorem zm_fk_word {M i ci k : Nat} (h : zm_find zm_fkT (zm_oc M) i = some (ci, k)) : zm_okF (zm_cnm M) (i, ci, k) := by
  obtain ⟨l, h1, h2⟩ := zm_find_mem h
  exact zm_fkT_ok _ l h1 _ h2
theorem zm_ck_word {M i ci : Nat} (h : zm_find zm_ckT (zm_oc M) i = some ci) : zm_okC (zm_cnm M) (i, ci) := by
  obtain ⟨l, h1, h2⟩ := zm_find_mem h
  exact zm_ckT_ok _ l h1 _ h2
theorem zm_lk_word {M i k t : Nat} {y : MethodName} (h : zm_find zm_lkT (zm_oc M) i = some (k, t, y)) : zm_okL (zm_cnm M) (i, k, t, y) ∧ (k < 3 → (zm_mtL[t]?).map (fun m => m.1) = some y) := by
  obtain ⟨l, h1, h2⟩ := zm_find_mem h
  refine ⟨zm_lkT_ok _ l h1 _ h2, ?_⟩
  have h3 := List.all_eq_true.mp zm_lkP_all l (List.mem_of_getElem? h1)
  have h4 := List.all_eq_true.mp h3 _ h2
  exact of_decide_eq_true h4

/-! the whole induction; what is still open stands as hypotheses -/
section ZM
variable {dC : Nat → ClassId} {dI : Nat → Nat → Nat} {cy : Nat → ClassId} {B : Nat} {ex : Nat → Nat} {X : Nat × (Nat → Int)}
/-- a call that throws into a handler of its caller -/
def zm_TR : Prop := ∀ (dC : Nat → ClassId) (dI : Nat → Nat → Nat) (cy : Nat → ClassId) (B : Nat) (ex : Nat → Nat) (X : Nat × (Nat → Int)) (d M M' pc' : Nat) (p : Program) (l : Launch) (e : Env) (R : Room) (s : State) (m : MethodId) (args : Array Value) (below : List Frame) (meth : Method) (c : Code) (H : Heap) (locs : List Loc) (cells slots : Nat) (Q : State → Prop) (pc : Nat) (ls : Array Slot) (loc loc' st as rest : List ZV) (hp h1 : ZH),
  l.stackTraces = false → zm_Cx dC dI cy B ex X (d + 1) M p R s m args meth c → zm_St dC dI cy B ex s M hp loc H locs ls → zm_stp X M (pc, loc, st, hp) = some (.inr (.inl (M', as, rest))) → zm_hd M pc loc = some (pc', loc') →
  zm_FC dC dI cy B ex X l d M' (0, zm_en (zm_ml M') as, [], hp) none h1 → (∃ t, h1.1 = hp.1 ++ t) → cells + (h1.1.length + 1 - hp.1.length) ≤ R.cells → slots + (zm_ns h1.1 + 6 - zm_ns hp.1) ≤ R.slots →
  (∀ H' locs' ls', zm_St dC dI cy B ex s M (h1.1 ++ [(30, 6)], h1.2) loc' H' locs' ls' → W p l e R s m args below meth c H' locs' (cells + (h1.1.length + 1 - hp.1.length)) (slots + (zm_ns h1.1 + 6 - zm_ns hp.1)) Q (F0 m pc' ls' [])) →
  W p l e R s m args below meth c H locs cells slots Q (F0 m pc ls (st.map (zm_cv B ex)))
/-- a call of the method with a table of its own -/
def zm_CR : Prop := ∀ (dC : Nat → ClassId) (dI : Nat → Nat → Nat) (cy : Nat → ClassId) (B : Nat) (ex : Nat → Nat) (X : Nat × (Nat → Int)) (d M : Nat) (p : Program) (l : Launch) (e : Env) (R : Room) (s : State) (m : MethodId) (args : Array Value) (below : List Frame) (meth : Method) (c : Code) (H : Heap) (locs : List Loc) (cells slots : Nat) (Q : State → Prop) (pc : Nat) (ls : Array Slot) (loc st as rest : List ZV) (hp h1 : ZH) (o : List ZV),
  zm_Cx dC dI cy B ex X (d + 1) M p R s m args meth c → zm_St dC dI cy B ex s M hp loc H locs ls → zm_stp X M (pc, loc, st, hp) = some (.inr (.inl (317, as, rest))) →
  zm_FC dC dI cy B ex X l d 317 (0, zm_en (zm_ml 317) as, [], hp) (some o) h1 → cells + (h1.1.length - hp.1.length) ≤ R.cells → slots + (zm_ns h1.1 - zm_ns hp.1) ≤ R.slots →
  (∀ H' locs', zm_St dC dI cy B ex s M h1 loc H' locs' ls → W p l e R s m args below meth c H' locs' (cells + (h1.1.length - hp.1.length)) (slots + (zm_ns h1.1 - zm_ns hp.1)) Q (F0 m (pc + 3) ls ((zm_rv B ex o).toList ++ rest.map (zm_cv B ex)))) →
  W p l e R s m args below meth c H locs cells slots Q (F0 m pc ls (st.map (zm_cv B ex)))
theorem zm_rv_map {B : Nat} {ex : Nat → Nat} {o : List ZV} (h : o.length ≤ 1) : (zm_rv B ex o).toList = o.map (zm_cv B ex) := by
  match o, h with
  | [], _ => rfl
  | [v], _ => rfl
  | _ :: _ :: _, h => simp at h
theorem zm_go_out {X : Nat × (Nat → Int)} : ∀ (n d M : Nat) (c : ZC) (o : List ZV) (h' : ZH), zm_go X n d M c = some (some o, h') → o.length ≤ 1 := by
  intro n
  induction n with
  | zero => intro d M c o h' h; cases h
  | succ n ih =>
    intro d M c o h' h
    rw [zm_go] at h
    split at h
    · cases h
    next c' hs => exact ih d M c' o h' h
    next M' as rest hs =>
      cases d with
      | zero => cases h
      | succ d' =>
        simp only at h
        split at h
        · cases h
        next out h1 hc => exact ih (d' + 1) M _ _ _ h
        next h1 hc =>
          split at h
          · cases h
          next pc' l' hh => exact ih (d' + 1) M _ _ _ h
    next o' hs =>
      cases h
      obtain ⟨pc, loc, st, hp⟩ := c
      rcases zm_end hs with ⟨z, -, rfl, -⟩ | ⟨z, -, rfl, -⟩ | ⟨z, -, rfl, -⟩ | ⟨-, rfl, -⟩ <;> simp
theorem zm_stp_317 {X : Nat × (Nat → Int)} {M pc M' : Nat} {loc st as rest : List ZV} {hp : ZH} (h : zm_stp X M (pc, loc, st, hp) = some (.inr (.inl (M', as, rest)))) : M' ≤ 317 := by
  obtain ⟨i, kind, y, -, -, hcall, -⟩ := zm_stp_call h
  exact (zm_call_ok hcall).2.2.2.2.1
theorem zm_ns_mono {a t : List (Nat × Nat)} : zm_ns a ≤ zm_ns (a ++ t) := by
  simp [zm_ns]
set_option maxHeartbeats 4000000 in
theorem zm_sound (hSR : zm_SR) (hTR : zm_TR) (hCR : zm_CR) (l : Launch) (hlt : l.stackTraces = false) : ∀ (n d M : Nat) (c0 : ZC) (out : Option (List ZV)) (hp' : ZH), zm_go X n d M c0 = some (out, hp') → zm_FC dC dI cy B ex X l d M c0 out hp' := by
  intro n
  induction n with
  | zero => intro d M c0 out hp' h; cases h
  | succ n ih =>
    intro d M c0 out hp' h
    obtain ⟨pc, loc, st, hp⟩ := c0
    have hpre := zm_go_pre _ _ _ _ _ _ h
    rw [zm_go] at h
    intro p e R s m args below meth c H locs cells slots Q ls C S hc0 hs0 hend
    simp only at C S hc0 hs0 hend ⊢
    split at h
    · cases h
    next c' hs =>
      obtain ⟨pc', loc', st', h1⟩ := c'
      obtain ⟨t1, e1⟩ := zm_stp_pre hs
      obtain ⟨t2, e2⟩ := zm_go_pre _ _ _ _ _ _ h
      simp only at e1 e2
      have n1 : zm_ns hp.1 ≤ zm_ns h1.1 := by rw [e1]; exact zm_ns_mono
      have n2 : zm_ns h1.1 ≤ zm_ns hp'.1 := by rw [e2]; exact zm_ns_mono
      have l1 : hp.1.length ≤ h1.1.length := by rw [e1]; simp
      have l2 : h1.1.length ≤ hp'.1.length := by rw [e2]; simp
      refine (zm_step hSR C S hs (by omega) (by omega) (fun H' locs' ls' S' => ?_)).2
      refine ih d M _ _ _ h p e R s m args below meth c H' locs' _ _ Q ls' C S' (by simp only; omega) (by simp only; omega) (fun pc1 loc1 st1 H1 locs1 ls1 S1 hs1 => ?_)
      have k2 := hend pc1 loc1 st1 H1 locs1 ls1 S1 hs1
      simp only
      rw [show cells + (h1.1.length - hp.1.length) + (hp'.1.length - h1.1.length) = cells + (hp'.1.length - hp.1.length) by omega, show slots + (zm_ns h1.1 - zm_ns hp.1) + (zm_ns hp'.1 - zm_ns h1.1) = slots + (zm_ns hp'.1 - zm_ns hp.1) by omega]
      exact k2
    next M' as rest hs =>
      cases d with
      | zero => cases h
      | succ d' =>
        simp only at h
        split at h
        · cases h
        next o h1 hc =>
          obtain ⟨t1, e1⟩ := zm_go_pre _ _ _ _ _ _ hc
          obtain ⟨t2, e2⟩ := zm_go_pre _ _ _ _ _ _ h
          simp only at e1 e2
          have n1 : zm_ns hp.1 ≤ zm_ns h1.1 := by rw [e1]; exact zm_ns_mono
          have n2 : zm_ns h1.1 ≤ zm_ns hp'.1 := by rw [e2]; exact zm_ns_mono
          have l1 : hp.1.length ≤ h1.1.length := by rw [e1]; simp
          have l2 : h1.1.length ≤ hp'.1.length := by rw [e2]; simp
          have hF := ih d' M' _ _ _ hc
          have kk : ∀ H' locs', zm_St dC dI cy B ex s M h1 loc H' locs' ls → W p l e R s m args below meth c H' locs' (cells + (h1.1.length - hp.1.length)) (slots + (zm_ns h1.1 - zm_ns hp.1)) Q (F0 m (pc + 3) ls ((zm_rv B ex o).toList ++ rest.map (zm_cv B ex))) := fun H' locs' S' => by
            rw [zm_rv_map (zm_go_out _ _ _ _ _ _ hc), ← List.map_append]
            refine ih (d' + 1) M _ _ _ h p e R s m args below meth c H' locs' _ _ Q ls C S' (by simp only; omega) (by simp only; omega) (fun pc1 loc1 st1 H1 locs1 ls1 S1 hs1 => ?_)
            have k2 := hend pc1 loc1 st1 H1 locs1 ls1 S1 hs1
            simp only
            rw [show cells + (h1.1.length - hp.1.length) + (hp'.1.length - h1.1.length) = cells + (hp'.1.length - hp.1.length) by omega, show slots + (zm_ns h1.1 - zm_ns hp.1) + (zm_ns hp'.1 - zm_ns h1.1) = slots + (zm_ns hp'.1 - zm_ns hp.1) by omega]
            exact k2
          by_cases h317 : M' < 317
          · exact zm_r_call C S hs h317 hF (by omega) (by omega) kk
          · have e9 : M' = 317 := by have := zm_stp_317 hs; omega
            subst e9
            exact hCR dC dI cy B ex X d' M p l e R s m args below meth c H locs cells slots Q pc ls loc st as rest hp h1 o C S hs hF (by omega) (by omega) kk
        next h1 hc =>
          split at h
          · cases h
          next pc' l' hh =>
            obtain ⟨t1, e1⟩ := zm_go_pre _ _ _ _ _ _ hc
            obtain ⟨t2, e2⟩ := zm_go_pre _ _ _ _ _ _ h
            simp only at e1 e2
            have n1 : zm_ns hp.1 ≤ zm_ns h1.1 := by rw [e1]; exact zm_ns_mono
            have n2 : zm_ns h1.1 + 6 ≤ zm_ns hp'.1 := by
              rw [e2]
              have : zm_ns (h1.1 ++ [(30, 6)]) = zm_ns h1.1 + 6 := zm_ns_app _ _
              rw [← this]
              exact zm_ns_mono
            have l1 : hp.1.length ≤ h1.1.length := by rw [e1]; simp
            have l2 : h1.1.length + 1 ≤ hp'.1.length := by rw [e2]; simp
            have hF := ih d' M' _ _ _ hc
            refine hTR dC dI cy B ex X d' M M' pc' p l e R s m args below meth c H locs cells slots Q pc ls loc l' st as rest hp h1 hlt C S hs hh hF ⟨t1, e1⟩ (by omega) (by omega) (fun H' locs' ls' S' => ?_)
            refine ih (d' + 1) M _ _ _ h p e R s m args below meth c H' locs' _ _ Q ls' C S' ?_ ?_ (fun pc1 loc1 st1 H1 locs1 ls1 S1 hs1 => ?_)
            · simp only [List.length_append, List.length_cons, List.length_nil]
              omega
            · simp only [zm_ns_app]
              omega
            · have k2 := hend pc1 loc1 st1 H1 locs1 ls1 S1 hs1
              simp only [List.length_append, List.length_cons, List.length_nil, zm_ns_app]
              rw [show cells + (h1.1.length + 1 - hp.1.length) + (hp'.1.length - (h1.1.length + (0 + 1))) = cells + (hp'.1.length - hp.1.length) by omega, show slots + (zm_ns h1.1 + 6 - zm_ns hp.1) + (zm_ns hp'.1 - (zm_ns h1.1 + 6)) = slots + (zm_ns hp'.1 - zm_ns hp.1) by omega]
              exact k2
    next o' hs =>
      cases h
      have k2 := hend pc loc st H locs ls S hs
      simp only [Nat.sub_self, Nat.add_zero] at k2
      exact k2
end ZM

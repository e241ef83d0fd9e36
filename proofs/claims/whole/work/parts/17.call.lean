/-! calls, and the whole: a run of the abstract machine is one of the machine -/
def zm_mtO (e : zm_MI) : Bool := decide (e.2.2.2.2.1 ≤ 12) && (!decide (e.1.name = "<init>") || decide (e.2.2.2.1 = none))
theorem zm_mtO_all : zm_mtL.all zm_mtO = true := by decide +kernel
theorem zm_oc12 {M : Nat} {e : zm_MI} (h : zm_mtL[M]? = some e) (h12 : 12 ≤ e.2.2.2.2.1) : e.2.2.2.2.1 = 12 := by
  have h1 := List.all_eq_true.mp zm_mtO_all e (List.mem_of_getElem? h)
  simp only [zm_mtO, Bool.and_eq_true, decide_eq_true_eq] at h1
  omega
theorem zm_initV {M : Nat} {e : zm_MI} (h : zm_mtL[M]? = some e) (hn : e.1.name = "<init>") : e.2.2.2.1 = none := by
  have h1 := List.all_eq_true.mp zm_mtO_all e (List.mem_of_getElem? h)
  simp only [zm_mtO, Bool.and_eq_true, Bool.or_eq_true, Bool.not_eq_true', decide_eq_true_eq, decide_eq_false_iff_not] at h1
  rcases h1.2 with q | q
  · exact absurd hn q
  · exact q
theorem zm_no12_all : (zm_mtL.take 317).all (fun e => decide (e.2.2.2.2.1 < 12)) = true := by decide +kernel
theorem zm_no12 (M : Nat) (hM : M < 317) (h : zm_oc M = 12) : False := by
  unfold zm_oc at h
  split at h
  next e he =>
    have hm : e ∈ zm_mtL.take 317 := List.mem_of_getElem? (i := M) (by rw [List.getElem?_take_of_lt hM]; exact he)
    have h1 := List.all_eq_true.mp zm_no12_all e hm
    simp only [decide_eq_true_eq] at h1
    omega
  next => cases h
set_option maxRecDepth 20000 in
theorem zm_roomL {q d r : Nat} (h : q ≤ 40) (h2 : (d + 1 + 1) * 64 + 1000 ≤ r) : 8 + (q + 11) + ((d + 1) * 64 + 1000) ≤ r := by omega
theorem zm_good {L : List Cond} (h : ∀ w ∈ L, w ∈ zm_TW) : GoodIn zm_TW L := fun w hw => ⟨h w hw, good_of_word (List.mem_filter.mp (h w hw)).2⟩
theorem zm_call_ok {kind tgt M' : Nat} {st as rest : List ZV} {h : ZH} (hc : zm_call kind tgt st h = some (.inr (.inl (M', as, rest)))) :
    M' = tgt ∧ as = (st.take (zm_cn2 kind tgt)).reverse ∧ rest = st.drop (zm_cn2 kind tgt) ∧ zm_cn2 kind tgt ≤ st.length ∧ tgt ≤ 317 ∧ zm_csum rest ≤ 8 ∧ (zm_fl as).length ≤ zm_ml tgt ∧ (kind = 1 ∨ zm_rcv tgt as h = true) := by
  unfold zm_call at hc
  split at hc
  next hh =>
    obtain ⟨h1, h2⟩ := hh
    simp only [Option.some.injEq, Sum.inr.injEq, Sum.inl.injEq, Prod.mk.injEq] at hc
    obtain ⟨rfl, rfl, rfl⟩ := hc
    simp only [zm_cok, Bool.and_eq_true, decide_eq_true_eq] at h1
    exact ⟨rfl, rfl, rfl, h1.1.1.1.1, h1.1.1.1.2, h1.1.1.2, h1.2, h2⟩
  next => cases hc
/-- a step that is a call -/
theorem zm_stp_call {X : Nat × (Nat → Int)} {M pc M' : Nat} {loc st as rest : List ZV} {hp : ZH} (h : zm_stp X M (pc, loc, st, hp) = some (.inr (.inl (M', as, rest)))) :
    ∃ i kind y, kind ≤ 2 ∧ zm_find zm_lkT (zm_oc M) i = some (kind, M', y) ∧ zm_call kind M' st hp = some (.inr (.inl (M', as, rest))) ∧ (kind = 0 → decode (zm_by M) pc = .ok (.invokevirtual i, 3)) ∧ (kind = 1 → decode (zm_by M) pc = .ok (.invokestatic i, 3)) ∧ (kind = 2 → decode (zm_by M) pc = .ok (.invokespecial i, 3)) := by
  unfold zm_stp at h
  split at h
  · cases h
  next ins len hins =>
    have hd : decode (zm_by M) pc = .ok (ins, len) := by
      unfold zm_ins at hins
      split at hins
      next q => rw [q]; exact congrArg _ (Option.some.inj hins)
      next => cases hins
    split at h
    next hlen =>
      have hd1 : zm_len ins ≠ 0 → decode (zm_by M) pc = .ok (ins, zm_len ins) := fun q => by
        rcases hlen with z | z
        · exact absurd z q
        · rw [← z]; exact hd
      have hinv : ∀ i op, zm_inv X M pc i op loc st hp = some (.inr (.inl (M', as, rest))) → ∃ kind y, kind ≤ 2 ∧ zm_find zm_lkT (zm_oc M) i = some (kind, M', y) ∧ zm_call kind M' st hp = some (.inr (.inl (M', as, rest))) ∧ kind = op := by
        intro i op h
        have hi2 : ∀ {f : Int → Int → Option Int} {n : Nat}, zm_i2 f n loc st hp ≠ some (.inr (.inl (M', as, rest))) := fun q => by
          unfold zm_i2 at q
          split at q
          · split at q <;> cases q
          · cases q
        unfold zm_inv at h
        split at h
        · cases h
        next kind tgt y hf =>
          split at h
          next hk =>
            split at h
            next ho =>
              have e := (zm_call_ok h).1
              subst e
              exact ⟨kind, y, hk, hf, h, ho⟩
            next => cases h
          next =>
            exfalso
            split at h <;> first | cases h | skip
            · split at h
              · split at h
                · split at h <;> cases h
                · cases h
              · cases h
            · split at h
              · split at h
                · exact hi2 h
                · cases h
              · cases h
            · split at h
              · split at h
                · exact hi2 h
                · cases h
              · cases h
            · split at h
              · split at h
                · split at h <;> cases h
                · cases h
              · cases h
            · split at h
              · split at h
                · split at h
                  · split at h <;> cases h
                  · cases h
                · cases h
              · cases h
            · split at h
              · split at h
                · split at h
                  · split at h <;> cases h
                  · cases h
                · cases h
              · cases h
            · split at h
              · split at h
                · split at h
                  · split at h <;> cases h
                  · cases h
                · cases h
              · cases h
      unfold zm_ex at h
      split at h
      · exfalso
        simp only at h
        unfold zm_ex1 at h
        split at h <;> first | cases h | skip
        · split at h
          · split at h <;> cases h
          · split at h <;> cases h
        · split at h
          · split at h <;> cases h
          · cases h
        · split at h
          · split at h <;> cases h
          · cases h
        · unfold zm_li at h; split at h <;> cases h
        · unfold zm_li at h; split at h <;> cases h
        · unfold zm_ll at h; split at h <;> cases h
        · unfold zm_ll at h; split at h <;> cases h
        · unfold zm_la at h; split at h <;> cases h
        · unfold zm_la at h; split at h <;> cases h
        · unfold zm_si at h
          split at h
          · split at h <;> cases h
          · cases h
        · unfold zm_si at h
          split at h
          · split at h <;> cases h
          · cases h
        · unfold zm_sl at h
          split at h
          · split at h <;> cases h
          · cases h
        · unfold zm_sl at h
          split at h
          · split at h <;> cases h
          · cases h
        · unfold zm_sa at h
          split at h
          · split at h <;> cases h
          · split at h <;> cases h
          · cases h
        · unfold zm_sa at h
          split at h
          · split at h <;> cases h
          · split at h <;> cases h
          · cases h
        · split at h
          · split at h <;> cases h
          · cases h
      · exfalso
        simp only at h
        have hi2 : ∀ {f : Int → Int → Option Int} {n : Nat}, zm_i2 f n loc st hp ≠ some (.inr (.inl (M', as, rest))) := fun q => by
          unfold zm_i2 at q
          split at q
          · split at q <;> cases q
          · cases q
        have hj2 : ∀ {f : Int → Int → Option Int} {n : Nat}, zm_j2 f n loc st hp ≠ some (.inr (.inl (M', as, rest))) := fun q => by
          unfold zm_j2 at q
          split at q
          · split at q <;> cases q
          · cases q
        have hj : ∀ {r : List ZV} {off : Int}, zm_jmp pc off loc r hp ≠ some (.inr (.inl (M', as, rest))) := fun q => by
          unfold zm_jmp at q
          split at q <;> cases q
        unfold zm_ex2 at h
        split at h <;> first | exact hi2 h | exact hj2 h | exact hj h | cases h | skip
        all_goals
          split at h
          · first
              | cases h
              | (split at h
                 · first
                     | cases h
                     | exact hj h
                     | (split at h <;> cases h)
                 · first
                     | cases h
                     | (split at h
                        · exact hj h
                        · cases h))
          · cases h
      · simp only at h
        cases ins
        case invokevirtual =>
          obtain ⟨kind, y, q1, q2, q3, rfl⟩ := hinv _ 0 h
          exact ⟨_, 0, y, q1, q2, q3, fun _ => hd1 (by simp [zm_len]), fun q => absurd q (by decide), fun q => absurd q (by decide)⟩
        case invokestatic =>
          obtain ⟨kind, y, q1, q2, q3, rfl⟩ := hinv _ 1 h
          exact ⟨_, 1, y, q1, q2, q3, fun q => absurd q (by decide), fun _ => hd1 (by simp [zm_len]), fun q => absurd q (by decide)⟩
        case invokespecial =>
          obtain ⟨kind, y, q1, q2, q3, rfl⟩ := hinv _ 2 h
          exact ⟨_, 2, y, q1, q2, q3, fun q => absurd q (by decide), fun q => absurd q (by decide), fun _ => hd1 (by simp [zm_len])⟩
        all_goals
          exfalso
          simp only [zm_ex3] at h
          first
            | cases h
            | ((repeat' split at h) <;> cases h)
    next => cases h
section ZV
variable {dC : Nat → ClassId} {dI : Nat → Nat → Nat} {cy : Nat → ClassId} {B : Nat} {ex : Nat → Nat} {X : Nat × (Nat → Int)}
variable {p : Program} {l : Launch} {e : Env} {R : Room} {s : State} {m : MethodId} {args : Array Value} {below : List Frame} {meth : Method} {c : Code} {H : Heap} {locs : List Loc} {cells slots : Nat} {Q : State → Prop}
variable {pc : Nat} {ls : Array Slot} {loc st as rest : List ZV} {hp hp' h1 : ZH}
theorem zm_callk {mc ms : Nat} {o : List ZV} {st0 rs : List Value} {a : Array Value} (hr : va_Run p l e R s m args below meth c H locs cells slots mc ms (F0 m pc ls st0) rs (zm_Qo dC dI cy B ex o h1 a) (fun q => B ≤ q)) (hS : va_S (fun q => B ≤ q) s.heap H locs)
    (kk : ∀ (H1 : Heap) (locs1 : List Loc), zm_W dC dI cy B ex h1 H1 → va_S (fun q => B ≤ q) s.heap H1 locs1 → W p l e R s m args below meth c H1 locs1 (cells + mc) (slots + ms) Q (F0 m (pc + 3) ls ((zm_rv B ex o).toList ++ rs))) : W p l e R s m args below meth c H locs cells slots Q (F0 m pc ls st0) := by
  intro T hT X
  obtain ⟨v, st₀, t, T', L, h0, X', hL, e1, e2, ⟨hv, hw, hz, hk⟩, st⟩ := hr T hT X
  cases hv
  rw [h0] at hz hk
  obtain ⟨t2, a1, b1⟩ := kk T'.heap (locs ++ L) (by rw [e1]; exact hw)
    ⟨Nat.le_trans hS.1 (by rw [e1]; exact hz), fun q g1 g2 => by rw [e1, hk q (Nat.lt_of_lt_of_le g1 hS.1) g2]; exact hS.2.1 q g1 g2, fun q hq => by
      rcases List.mem_append.mp hq with h | h
      · exact hS.2.2 q h
      · exact hL q h⟩ T' rfl X'
  exact ⟨t2, st t2 a1, b1⟩
theorem zm_Pr_blind {av : List Value} : FrameBlind (va_Pc av (zm_Pr dC dI cy B ex X hp)) := by
  intro a U g mk q
  obtain ⟨q0, qW, qK, qB, qE⟩ := q
  exact ⟨q0, qW, va_K.moved (u := U) (U := U.calling g mk a) (Vm.Alike.refl U.vm) qK, qB, qE.go (U := U.calling g mk a) (State.WarmedH.refl U) (fun _ _ _ => rfl) (Nat.le_refl _)⟩
theorem zm_map_split (n : Nat) (st : List ZV) : st.map (zm_cv B ex) = (((st.take n).reverse).map (zm_cv B ex)).reverse ++ (st.drop n).map (zm_cv B ex) := by
  rw [← List.map_reverse, List.reverse_reverse, ← List.map_append, List.take_append_drop]
set_option maxHeartbeats 4000000 in
theorem zm_r_call {d M M' : Nat} {o : List ZV} (C : zm_Cx dC dI cy B ex X (d + 1) M p R s m args meth c) (S : zm_St dC dI cy B ex s M hp loc H locs ls) (h : zm_stp X M (pc, loc, st, hp) = some (.inr (.inl (M', as, rest)))) (h317 : M' < 317)
    (hF : zm_FC dC dI cy B ex X l d M' (0, zm_en (zm_ml M') as, [], hp) (some o) h1)
    (hc0 : cells + (h1.1.length - hp.1.length) ≤ R.cells) (hs0 : slots + (zm_ns h1.1 - zm_ns hp.1) ≤ R.slots)
    (k : ∀ H' locs', zm_St dC dI cy B ex s M h1 loc H' locs' ls → W p l e R s m args below meth c H' locs' (cells + (h1.1.length - hp.1.length)) (slots + (zm_ns h1.1 - zm_ns hp.1)) Q (F0 m (pc + 3) ls ((zm_rv B ex o).toList ++ rest.map (zm_cv B ex)))) :
    W p l e R s m args below meth c H locs cells slots Q (F0 m pc ls (st.map (zm_cv B ex))) := by
  obtain ⟨hx, hb, hml, hown, hts, hK, hBs, hnm, hfr, hlo, hE⟩ := id C
  obtain ⟨hW, hS, hl⟩ := id S
  obtain ⟨i, kind, y, hk2, hf, hcall, d0, d1, d2⟩ := zm_stp_call h
  obtain ⟨-, eas, erest, hn, -, hcs, hfl, hrcv⟩ := zm_call_ok hcall
  obtain ⟨hw, hmy⟩ := zm_lk_word hf
  have hmy := hmy (by omega)
  obtain ⟨e0, hM0⟩ : ∃ e0, zm_mtL[M']? = some e0 := by
    cases q : zm_mtL[M']? with
    | none => rw [q] at hmy; cases hmy
    | some e0 => exact ⟨e0, rfl⟩
  have ey : e0.1 = y := by rw [hM0] at hmy; exact Option.some.inj hmy
  subst ey
  obtain ⟨f1, f2, f3, f4, f5, f6⟩ := zm_mt_facts hM0
  obtain ⟨ok1, ok2⟩ := zm_mok hM0 h317
  have ena : zm_na M' = e0.2.2.2.2.2 := by simp only [zm_na, hM0]
  have eoc : zm_oc M' = e0.2.2.2.2.1 := by simp only [zm_oc, hM0]
  have hmet := zm_met hM0 h317 hF hfl
  have hsum : 2 * (F0 m pc ls (st.map (zm_cv B ex))).monitorRoom + ((rest.map (zm_cv B ex)).map fun v => v.category).sum ≤ 8 := by
    rw [zm_csum_eq]
    show 2 * 0 + _ ≤ 8
    omega
  have hR : (zm_rm d (h1.1.length - hp.1.length) (zm_ns h1.1 - zm_ns hp.1)).frames + 1 ≤ R.frames ∧ 8 + (e0.2.2.1 + 11) + (zm_rm d (h1.1.length - hp.1.length) (zm_ns h1.1 - zm_ns hp.1)).locals ≤ R.locals := by
    refine ⟨by show d + 20 + 1 ≤ _; omega, ?_⟩
    exact zm_roomL f6 hlo
  have hkk := fun H1 locs1 w1 w2 => k H1 locs1 ⟨w1, w2, hl⟩
  have hPr : ∀ U : State, U.heap = H → s.WarmedH U.vm → zm_Pr dC dI cy B ex X hp U := fun U hU hWm => ⟨by rw [hU]; exact hW, va_K.moved hWm.alike hK, by rw [hU]; exact Nat.le_trans hBs hS.1, by rw [hU]; exact hE.go hWm (fun a g1 g2 => hS.2.1 a g1 g2) hS.1⟩
  have hlen : as.length = zm_cn2 kind M' := by rw [eas, List.length_reverse, List.length_take, Nat.min_eq_left hn]
  have hsplit := zm_map_split (B := B) (ex := ex) (zm_cn2 kind M') st
  rw [← eas, ← erest] at hsplit
  have hgw : ∀ w ∈ (Cond.code e0.1 e0.2.1 e0.2.2.1 e0.2.2.2.1 :: zm_TW), w ∈ zm_TW := fun w hw => by
    rcases List.mem_cons.mp hw with q | q
    · rw [q]; exact ok1
    · exact q
  rcases (show kind = 0 ∨ kind = 1 ∨ kind = 2 by omega) with rfl | rfl | rfl
  · -- virtual
    rcases hrcv with q | q
    · cases q
    · unfold zm_rcv at q
      split at q
      next o1 r1 =>
        have q := of_decide_eq_true q
        obtain ⟨hi, hse⟩ := hw.2.1 rfl
        have hcl : ∃ qq : vw_C, vwCl[zm_oc M']? = some qq ∧ qq.1 = e0.1.cls := by
          have hlt : zm_oc M' < 12 := by
            rcases Nat.lt_or_ge (zm_oc M') 12 with z | z
            · exact z
            · exfalso
              have hat := hW.2 o1 _ q
              have : zm_oc M' = 12 := by
                rw [eoc]
                exact zm_oc12 hM0 (by rw [← eoc]; exact z)
              rw [this] at q
              exact zm_no12 M' h317 this
          obtain ⟨qq, hqq⟩ : ∃ qq, vwCl[zm_oc M']? = some qq := ⟨_, List.getElem?_eq_getElem hlt⟩
          exact ⟨qq, hqq, by rw [← (zm_cls_ok _ qq hqq).2.2.2.2.1]; exact f1⟩
        obtain ⟨qq, hqq, hqn⟩ := hcl
        have hat := hW.2 o1 _ q (by show zm_oc M' ≠ 30; have := (zm_cls_ok _ qq hqq).2.2.2.2.2.1; omega)
        rw [zm_ce_obj (q := (zm_oc M', zm_nF (zm_oc M'))) (zm_cls_ok _ qq hqq).2.2.2.2.2.1] at hat
        have hrec := va_recv (q0 := 0) (a := B + o1) hK (zm_one hat) hqq rfl
        rw [hqn] at hrec
        refine zm_callk (va_runV (As := r1.map (zm_cv B ex)) (b := B + o1) (rest := rest.map (zm_cv B ex)) ⟨hx, hb, hml, hown, hts⟩ hmet (cwV e0.2.2.2.2.2 (C := e0.1.cls) hts (zm_good (fun w hw9 => ?_)) rfl rfl rfl ⟨rfl, f2, f3, f4⟩ hR) ⟨zm_Pr_blind, hrec, fun U hU hWm => ⟨rfl, hPr U hU hWm⟩⟩ rfl ?_ (by rw [hl.1]) ?_ hsum (d0 rfl) ⟨hc0, hs0⟩) hS hkk
        · rcases List.mem_append.mp hw9 with z | z
          · simp only [List.mem_cons, List.not_mem_nil, or_false] at z
            rcases z with z | z | z | z
            · rw [z]; exact hw.1
            · rw [z]; exact hi
            · rw [z]; exact hse
            · rw [z]; exact ok2
          · exact hgw w z
        · have : (r1.map (zm_cv B ex)).length + 1 = zm_na M' + 1 := by simpa [zm_cn2] using hlen
          rw [← ena]
          omega
        · show st.map (zm_cv B ex) = _
          rw [hsplit]
          simp [zm_cv]
      next => cases q
  · -- static
    have hst := hw.2.2.1 rfl
    refine zm_callk (va_runS (As := as.map (zm_cv B ex)) (rest := rest.map (zm_cv B ex)) ⟨hx, hb, hml, hown, hts⟩ hmet ⟨callB_of e0.2.2.2.2.2 hts (zm_good hgw) rfl rfl rfl (hts _ ok2) (hts _ hw.1) ⟨f2, f3, f4⟩ hR, hts _ hst⟩ ⟨zm_Pr_blind, fun U hU hWm => ⟨rfl, hPr U hU hWm⟩⟩ rfl ?_ (by rw [hl.1]) ?_ hsum (d1 rfl) ⟨hc0, hs0⟩) hS hkk
    · rw [List.length_map, hlen, ← ena]
      rfl
    · exact hsplit
  · -- init
    rcases hrcv with q | q
    · cases q
    · unfold zm_rcv at q
      split at q
      next o1 r1 =>
        obtain ⟨hi, hnm9⟩ := hw.2.2.2 rfl
        have hvoid : e0.2.2.2.1 = none := zm_initV hM0 hnm9
        have hmet' := hmet
        refine zm_callk (va_runI (As := r1.map (zm_cv B ex)) (b := B + o1) (rest := rest.map (zm_cv B ex)) ⟨hx, hb, hml, hown, hts⟩ hmet ⟨callB_of e0.2.2.2.2.2 (bytes := e0.2.1) (maxL := e0.2.2.1) (ret := none) hts (zm_good hgw) (by rw [hvoid]) rfl rfl (hts _ ok2) (hts _ hw.1) ⟨f2, f3, f4⟩ hR, hnm9, hts _ hi⟩ ⟨zm_Pr_blind, fun U hU hWm => ⟨rfl, hPr U hU hWm⟩⟩ rfl ?_ (by rw [hl.1]) ?_ hsum (d2 rfl) ⟨hc0, hs0⟩) hS hkk
        · have : (r1.map (zm_cv B ex)).length + 1 = zm_na M' + 1 := by simpa [zm_cn2] using hlen
          rw [← ena]
          omega
        · show st.map (zm_cv B ex) = _
          rw [hsplit]
          simp [zm_cv]
      next => cases q
end ZV

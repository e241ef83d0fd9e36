/-! String.length, String.charAt of the constants -/
abbrev jc_P : ByteArray := prog_28_method_11_code
def jy_P : MethodName := ⟨"jdk/internal/util/Preconditions", "checkIndex", "(IILjava/util/function/BiFunction;)I"⟩
theorem jw_P : Cond.code jy_P jc_P 3 (some .int) ∈ zm_TW := (zm_t (zm_c3 82 rfl) rfl)
theorem jn_P : Cond.initialized "jdk/internal/util/Preconditions" ∈ zm_TW := (zm_t (zm_c1 16 rfl) rfl)
theorem js_P : Cond.static jy_P ∈ zm_TW := (zm_t (zm_c3 81 rfl) rfl)
abbrev jc_C : ByteArray := prog_20_method_155_code
def jy_C : MethodName := ⟨"java/lang/String", "checkIndex", "(II)V"⟩
theorem jw_C : Cond.code jy_C jc_C 2 none ∈ zm_TW := (zm_t (zm_c3 77 rfl) rfl)
theorem jn_C : Cond.initialized "java/lang/String" ∈ zm_TW := (zm_t (zm_c1 14 rfl) rfl)
theorem js_C : Cond.static jy_C ∈ zm_TW := (zm_t (zm_c3 76 rfl) rfl)
abbrev jc_L : ByteArray := prog_21_method_2_code
def jy_L : MethodName := ⟨"java/lang/StringLatin1", "charAt", "([BI)C"⟩
theorem jw_L : Cond.code jy_L jc_L 2 (some .char) ∈ zm_TW := (zm_t (zm_c3 74 rfl) rfl)
theorem jn_L : Cond.initialized "java/lang/StringLatin1" ∈ zm_TW := (zm_t (zm_c1 15 rfl) rfl)
theorem js_L : Cond.static jy_L ∈ zm_TW := (zm_t (zm_c3 73 rfl) rfl)
abbrev jc_I : ByteArray := prog_20_method_154_code
def jy_I : MethodName := ⟨"java/lang/String", "isLatin1", "()Z"⟩
theorem jw_I : Cond.code jy_I jc_I 1 (some .boolean) ∈ zm_TW := (zm_t (zm_c3 71 rfl) rfl)
theorem jn_I : Cond.initialized "java/lang/String" ∈ zm_TW := (zm_t (zm_c1 14 rfl) rfl)
theorem ji_I : Cond.instanceMethod jy_I ∈ zm_TW := (zm_t (zm_c3 69 rfl) rfl)
theorem jse_I : Cond.selects "java/lang/String" jy_I jy_I ∈ zm_TW := (zm_t (zm_c3 70 rfl) rfl)
abbrev jc_A : ByteArray := prog_20_method_56_code
def jy_A : MethodName := ⟨"java/lang/String", "charAt", "(I)C"⟩
theorem jw_A : Cond.code jy_A jc_A 2 (some .char) ∈ zm_TW := (zm_t (zm_c3 67 rfl) rfl)
theorem jn_A : Cond.initialized "java/lang/String" ∈ zm_TW := (zm_t (zm_c1 14 rfl) rfl)
theorem ji_A : Cond.instanceMethod jy_A ∈ zm_TW := (zm_t (zm_c3 65 rfl) rfl)
theorem jse_A : Cond.selects "java/lang/String" jy_A jy_A ∈ zm_TW := (zm_t (zm_c3 66 rfl) rfl)
abbrev jc_K : ByteArray := prog_20_method_152_code
def jy_K : MethodName := ⟨"java/lang/String", "coder", "()B"⟩
theorem jw_K : Cond.code jy_K jc_K 1 (some .byte) ∈ zm_TW := (zm_t (zm_c3 61 rfl) rfl)
theorem jn_K : Cond.initialized "java/lang/String" ∈ zm_TW := (zm_t (zm_c1 14 rfl) rfl)
theorem ji_K : Cond.instanceMethod jy_K ∈ zm_TW := (zm_t (zm_c3 59 rfl) rfl)
theorem jse_K : Cond.selects "java/lang/String" jy_K jy_K ∈ zm_TW := (zm_t (zm_c3 60 rfl) rfl)
abbrev jc_N : ByteArray := prog_20_method_54_code
def jy_N : MethodName := ⟨"java/lang/String", "length", "()I"⟩
theorem jw_N : Cond.code jy_N jc_N 1 (some .int) ∈ zm_TW := (zm_t (zm_c3 57 rfl) rfl)
theorem jn_N : Cond.initialized "java/lang/String" ∈ zm_TW := (zm_t (zm_c1 14 rfl) rfl)
theorem ji_N : Cond.instanceMethod jy_N ∈ zm_TW := (zm_t (zm_c3 55 rfl) rfl)
theorem jse_N : Cond.selects "java/lang/String" jy_N jy_N ∈ zm_TW := (zm_t (zm_c3 56 rfl) rfl)
theorem jl_String_K : Cond.methodLink "java/lang/String" 335 jy_K ∈ zm_TW := (zm_t (zm_c3 58 rfl) rfl)
theorem jl_String_I : Cond.methodLink "java/lang/String" 492 jy_I ∈ zm_TW := (zm_t (zm_c3 68 rfl) rfl)
theorem jl_String_L : Cond.methodLink "java/lang/String" 495 jy_L ∈ zm_TW := (zm_t (zm_c3 72 rfl) rfl)
theorem jl_StringLatin1_C : Cond.methodLink "java/lang/StringLatin1" 9 jy_C ∈ zm_TW := (zm_t (zm_c3 75 rfl) rfl)
theorem jl_String_P : Cond.methodLink "java/lang/String" 1059 jy_P ∈ zm_TW := (zm_t (zm_c3 80 rfl) rfl)
theorem jf_cs : Cond.fieldLink "java/lang/String" 38 "java/lang/String" "COMPACT_STRINGS" "Z" ∈ zm_TW := (zm_t (zm_c3 62 rfl) rfl)
theorem jf_co : Cond.fieldLink "java/lang/String" 15 "java/lang/String" "coder" "B" ∈ zm_TW := (zm_t (zm_c9 121 rfl) rfl)
theorem jf_va : Cond.fieldLink "java/lang/String" 9 "java/lang/String" "value" "[B" ∈ zm_TW := (zm_t (zm_c9 120 rfl) rfl)
theorem jf_sf : Cond.fieldLink "java/lang/String" 1053 "jdk/internal/util/Preconditions" "SIOOBE_FORMATTER" "Ljava/util/function/BiFunction;" ∈ zm_TW := (zm_t (zm_c3 78 rfl) rfl)
theorem jd_P_0 : decode jc_P 0 = .ok (.iload_n 0, 1) := by decide +kernel
theorem jd_P_1 : decode jc_P 1 = .ok (.ifCond .lt 8, 3) := by decide +kernel
theorem jd_P_4 : decode jc_P 4 = .ok (.iload_n 0, 1) := by decide +kernel
theorem jd_P_5 : decode jc_P 5 = .ok (.iload_n 1, 1) := by decide +kernel
theorem jd_P_6 : decode jc_P 6 = .ok (.if_icmp .lt 10, 3) := by decide +kernel
theorem jd_P_9 : decode jc_P 9 = .ok (.aload_n 2, 1) := by decide +kernel
theorem jd_P_10 : decode jc_P 10 = .ok (.iload_n 0, 1) := by decide +kernel
theorem jd_P_11 : decode jc_P 11 = .ok (.iload_n 1, 1) := by decide +kernel
theorem jd_P_12 : decode jc_P 12 = .ok (.invokestatic 95, 3) := by decide +kernel
theorem jd_P_15 : decode jc_P 15 = .ok (.athrow, 1) := by decide +kernel
theorem jd_P_16 : decode jc_P 16 = .ok (.iload_n 0, 1) := by decide +kernel
theorem jd_P_17 : decode jc_P 17 = .ok (.ireturn, 1) := by decide +kernel
theorem jd_C_0 : decode jc_C 0 = .ok (.iload_n 0, 1) := by decide +kernel
theorem jd_C_1 : decode jc_C 1 = .ok (.iload_n 1, 1) := by decide +kernel
theorem jd_C_2 : decode jc_C 2 = .ok (.getstatic 1053, 3) := by decide +kernel
theorem jd_C_5 : decode jc_C 5 = .ok (.invokestatic 1059, 3) := by decide +kernel
theorem jd_C_8 : decode jc_C 8 = .ok (.pop, 1) := by decide +kernel
theorem jd_C_9 : decode jc_C 9 = .ok (.return_, 1) := by decide +kernel
theorem jd_L_0 : decode jc_L 0 = .ok (.iload_n 1, 1) := by decide +kernel
theorem jd_L_1 : decode jc_L 1 = .ok (.aload_n 0, 1) := by decide +kernel
theorem jd_L_2 : decode jc_L 2 = .ok (.arraylength, 1) := by decide +kernel
theorem jd_L_3 : decode jc_L 3 = .ok (.invokestatic 9, 3) := by decide +kernel
theorem jd_L_6 : decode jc_L 6 = .ok (.aload_n 0, 1) := by decide +kernel
theorem jd_L_7 : decode jc_L 7 = .ok (.iload_n 1, 1) := by decide +kernel
theorem jd_L_8 : decode jc_L 8 = .ok (.baload, 1) := by decide +kernel
theorem jd_L_9 : decode jc_L 9 = .ok (.sipush 255, 3) := by decide +kernel
theorem jd_L_12 : decode jc_L 12 = .ok (.iand, 1) := by decide +kernel
theorem jd_L_13 : decode jc_L 13 = .ok (.i2c, 1) := by decide +kernel
theorem jd_L_14 : decode jc_L 14 = .ok (.ireturn, 1) := by decide +kernel
theorem jd_I_0 : decode jc_I 0 = .ok (.getstatic 38, 3) := by decide +kernel
theorem jd_I_3 : decode jc_I 3 = .ok (.ifCond .eq 14, 3) := by decide +kernel
theorem jd_I_6 : decode jc_I 6 = .ok (.aload_n 0, 1) := by decide +kernel
theorem jd_I_7 : decode jc_I 7 = .ok (.getfield 15, 3) := by decide +kernel
theorem jd_I_10 : decode jc_I 10 = .ok (.ifCond .ne 7, 3) := by decide +kernel
theorem jd_I_13 : decode jc_I 13 = .ok (.iconst 1, 1) := by decide +kernel
theorem jd_I_14 : decode jc_I 14 = .ok (.goto 4, 3) := by decide +kernel
theorem jd_I_17 : decode jc_I 17 = .ok (.iconst 0, 1) := by decide +kernel
theorem jd_I_18 : decode jc_I 18 = .ok (.ireturn, 1) := by decide +kernel
theorem jd_A_0 : decode jc_A 0 = .ok (.aload_n 0, 1) := by decide +kernel
theorem jd_A_1 : decode jc_A 1 = .ok (.invokevirtual 492, 3) := by decide +kernel
theorem jd_A_4 : decode jc_A 4 = .ok (.ifCond .eq 12, 3) := by decide +kernel
theorem jd_A_7 : decode jc_A 7 = .ok (.aload_n 0, 1) := by decide +kernel
theorem jd_A_8 : decode jc_A 8 = .ok (.getfield 9, 3) := by decide +kernel
theorem jd_A_11 : decode jc_A 11 = .ok (.iload_n 1, 1) := by decide +kernel
theorem jd_A_12 : decode jc_A 12 = .ok (.invokestatic 495, 3) := by decide +kernel
theorem jd_A_15 : decode jc_A 15 = .ok (.ireturn, 1) := by decide +kernel
theorem jd_A_16 : decode jc_A 16 = .ok (.aload_n 0, 1) := by decide +kernel
theorem jd_A_17 : decode jc_A 17 = .ok (.getfield 9, 3) := by decide +kernel
theorem jd_A_20 : decode jc_A 20 = .ok (.iload_n 1, 1) := by decide +kernel
theorem jd_A_21 : decode jc_A 21 = .ok (.invokestatic 498, 3) := by decide +kernel
theorem jd_A_24 : decode jc_A 24 = .ok (.ireturn, 1) := by decide +kernel
theorem jd_K_0 : decode jc_K 0 = .ok (.getstatic 38, 3) := by decide +kernel
theorem jd_K_3 : decode jc_K 3 = .ok (.ifCond .eq 10, 3) := by decide +kernel
theorem jd_K_6 : decode jc_K 6 = .ok (.aload_n 0, 1) := by decide +kernel
theorem jd_K_7 : decode jc_K 7 = .ok (.getfield 15, 3) := by decide +kernel
theorem jd_K_10 : decode jc_K 10 = .ok (.goto 4, 3) := by decide +kernel
theorem jd_K_13 : decode jc_K 13 = .ok (.iconst 1, 1) := by decide +kernel
theorem jd_K_14 : decode jc_K 14 = .ok (.ireturn, 1) := by decide +kernel
theorem jd_N_0 : decode jc_N 0 = .ok (.aload_n 0, 1) := by decide +kernel
theorem jd_N_1 : decode jc_N 1 = .ok (.getfield 9, 3) := by decide +kernel
theorem jd_N_4 : decode jc_N 4 = .ok (.arraylength, 1) := by decide +kernel
theorem jd_N_5 : decode jc_N 5 = .ok (.aload_n 0, 1) := by decide +kernel
theorem jd_N_6 : decode jc_N 6 = .ok (.invokevirtual 335, 3) := by decide +kernel
theorem jd_N_9 : decode jc_N 9 = .ok (.ishr, 1) := by decide +kernel
theorem jd_N_10 : decode jc_N 10 = .ok (.ireturn, 1) := by decide +kernel
theorem js_all : ∀ q : Fin 128, ((Int32.ofNat q.val &&& 255).toUInt32 % 65536 = (Int32.ofNat q.val).toUInt32) ∧ Int32.ofNat q.val &&& 255 = Int32.ofNat q.val := by decide +kernel
theorem js_small {z : Int} (h1 : 97 ≤ z) (h2 : z ≤ 122) : (Int32.ofInt z &&& 255).toUInt32 % 65536 = (Int32.ofInt z).toUInt32 ∧ Int32.ofInt z &&& 255 = Int32.ofInt z := by
  obtain ⟨n, rfl⟩ : ∃ n : Nat, z = n := ⟨z.toNat, by omega⟩
  have := js_all ⟨n, by omega⟩
  rw [show Int32.ofInt (n : Int) = Int32.ofNat n from Int32.ofInt_eq_ofNat ..]
  exact this
theorem js_c16 {x : Int32} (h : x.toUInt32 % 65536 = x.toUInt32) : x.toUInt32.toUInt16.toUInt32.toInt32 = x := by
  have : x.toUInt32.toUInt16.toUInt32 = x.toUInt32 := by
    apply UInt32.toNat_inj.mp
    have h2 := congrArg UInt32.toNat h
    simp at h2 ⊢
    exact h2
  rw [this]
  rfl
section ZJ
variable {B : Nat} {ex : Nat → Nat} {X : Nat × (Nat → Int)}
def js_Pr (B : Nat) (ex : Nat → Nat) (X : Nat × (Nat → Int)) (U : State) : Prop := zm_E B ex X U U.heap
theorem js_blind {av : List Value} : FrameBlind (va_Pc av (js_Pr B ex X)) := by
  intro a U g mk q
  obtain ⟨q0, qE⟩ := q
  exact ⟨q0, qE.go (U := U.calling g mk a) (State.WarmedH.refl U) (fun _ _ _ => rfl) (Nat.le_refl _)⟩
def js_Q (v : Option Value) : Array Value → State → Outcome → State → Prop := fun _ st oc t => oc = .returned v ∧ t.heap = st.heap
abbrev js_rm (f n : Nat) : Room := { frames := f, cells := 0, slots := 0, locals := n }
section ZJ2
variable {p : Program} {l : Launch} {e : Env} {R : Room} {s : State} {m : MethodId} {args : Array Value} {below : List Frame} {meth : Method} {c : Code} {H : Heap} {locs : List Loc} {cells slots : Nat} {Q : State → Prop} {pc : Nat} {ls : Array Slot}
theorem js_call {v : Option Value} {st0 rs : List Value} {a : Array Value} (hr : va_Run p l e R s m args below meth c H locs cells slots 0 0 (F0 m pc ls st0) rs (js_Q v a) (fun _ => False))
    (kk : W p l e R s m args below meth c H locs cells slots Q (F0 m (pc + 3) ls (v.toList ++ rs))) : W p l e R s m args below meth c H locs cells slots Q (F0 m pc ls st0) := by
  intro T hT X
  obtain ⟨v', st₀, t, T', L, h0, X', hL, e1, e2, ⟨hv, hh⟩, st⟩ := hr T hT X
  cases hv
  obtain ⟨t2, a1, b1⟩ := kk T' (by rw [e1, hh, h0]) (Stand.forget X' (fun q h => (hL q h).elim))
  exact ⟨t2, st t2 a1, b1⟩
end ZJ2
theorem js_good {L : List Cond} (h : ∀ w ∈ L, w ∈ zm_TW) : GoodIn zm_TW L := zm_good h
theorem js_gw {y : MethodName} {b : ByteArray} {n : Nat} {r : Option FieldType} (h : Cond.code y b n r ∈ zm_TW) : ∀ w ∈ (Cond.code y b n r :: zm_TW), w ∈ zm_TW := fun w hw => by
  rcases List.mem_cons.mp hw with q | q
  · rw [q]; exact h
  · exact q
theorem js_gv {own C : String} {i : Nat} {y : MethodName} {b : ByteArray} {n : Nat} {r : Option FieldType} (h : Cond.code y b n r ∈ zm_TW) (h1 : Cond.methodLink own i y ∈ zm_TW) (h2 : Cond.instanceMethod y ∈ zm_TW) (h3 : Cond.selects C y y ∈ zm_TW) (h4 : Cond.initialized C ∈ zm_TW) : GoodIn zm_TW (wsV own i C y (Cond.code y b n r :: zm_TW)) := by
  refine zm_good (fun w hw => ?_)
  rcases List.mem_append.mp hw with z | z
  · simp only [List.mem_cons, List.not_mem_nil, or_false] at z
    rcases z with z | z | z | z
    · rw [z]; exact h1
    · rw [z]; exact h2
    · rw [z]; exact h3
    · rw [z]; exact h4
  · exact js_gw h w z
set_option maxHeartbeats 4000000 in
theorem js_cP (l : Launch) (j n : Int32) (f : Value) (hf : f = .null ∨ ∃ a, f = .ref a) (h1 : ¬ j < 0) (h2 : j < n) : Met l jy_P (Cond.code jy_P jc_P 3 (some .int) :: zm_TW) (js_rm 0 0) (va_Pc [.int j, .int n, f] (js_Pr B ex X)) (js_Q (some (.int j))) 0 0 (fun _ => False) := by
  refine Met.ofW (cc := jc_P) (maxL := 3) (ret := some .int) (by decide) rfl ?_
  intro p e s m args below meth c s₁ Bd hml hv
  obtain ⟨rfl, hE⟩ := hv
  have hx := Bd.exec
  have hb := Bd.bytes
  have hr := Bd.returns
  have hlocks := Bd.notSynchronized
  have hcat : f.category = 1 := by rcases hf with rfl | ⟨a, rfl⟩ <;> rfl
  have hll : (lg_sl [.int j, .int n, f]).length = 3 := by rcases hf with rfl | ⟨a, rfl⟩ <;> rfl
  have hl := lv_entry ([.int j, .int n, f]) (n := 3) (by rw [hll]; exact Nat.le_refl _)
  rw [lg_entry_eq]
  generalize (lg_sl ([.int j, .int n, f]) ++ List.replicate (3 - (lg_sl ([.int j, .int n, f])).length) Slot.unset).toArray = ls at hl ⊢
  have hl : lv_has ls 3 [(0, .int j), (1, .int n), (2, f)] := hl
  refine lv_iload_n hx hb jd_P_0 rfl (lv_at hl 0 rfl) ?_
  refine lv_if_lt (tgt := 9) hx hb jd_P_1 (by decide) (fun q => absurd q h1) (fun _ => ?_)
  refine lv_iload_n hx hb jd_P_4 rfl (lv_at hl 0 rfl) ?_
  refine lv_iload_n hx hb jd_P_5 rfl (lv_at hl 1 rfl) ?_
  refine lv_icmp_lt (tgt := 16) hx hb jd_P_6 (by decide) (fun _ => ?_) (fun q => absurd h2 q)
  refine lv_iload_n hx hb jd_P_16 rfl (lv_at hl 0 rfl) ?_
  exact W.iret (v := j) hx hb hr (fun t ht hw => ⟨rfl, ht⟩) (fun q hq => by cases hq) jd_P_17
set_option maxHeartbeats 4000000 in
theorem js_cC (l : Launch) (j n : Int32) (h1 : ¬ j < 0) (h2 : j < n) : Met l jy_C (Cond.code jy_C jc_C 2 none :: zm_TW) (js_rm 1 22) (va_Pc [.int j, .int n] (js_Pr B ex X)) (js_Q none) 0 0 (fun _ => False) := by
  refine Met.ofW (cc := jc_C) (maxL := 2) (ret := none) (by decide) rfl ?_
  intro p e s m args below meth c s₁ Bd hml hv
  obtain ⟨rfl, hE⟩ := hv
  have hx := Bd.exec
  have hb := Bd.bytes
  have hr := Bd.returns
  have hlocks := Bd.notSynchronized
  have hts : ∀ w ∈ zm_TW, w.before _ s = true := fun w hw => atoms_spec (ws := Cond.code jy_C jc_C 2 none :: zm_TW) Bd.pre w (List.mem_cons_of_mem _ hw)
  have hown : s.vm.findClass "java/lang/String" = some m.cls := findClass_of_methodNamed Bd.named
  have hl := lv_entry ([.int j, .int n]) (n := 2) (Nat.le_of_ble_eq_true rfl)
  rw [lg_entry_eq]
  generalize (lg_sl ([.int j, .int n]) ++ List.replicate (2 - (lg_sl ([.int j, .int n])).length) Slot.unset).toArray = ls at hl ⊢
  have hl : lv_has ls 2 [(0, .int j), (1, .int n)] := hl
  refine lv_iload_n hx hb jd_C_0 rfl (lv_at hl 0 rfl) ?_
  refine lv_iload_n hx hb jd_C_1 rfl (lv_at hl 1 rfl) ?_
  have key : ∀ f : Value, (f = .null ∨ ∃ a, f = .ref a) → W p l e (headSpec (Cond.code jy_C jc_C 2 none :: zm_TW) (js_rm 1 22)).room s m [Value.int j, .int n].toArray below meth c s.heap [] 0 0 (MQ below (js_Q none) [Value.int j, .int n].toArray s 0 0 (fun _ => False)) (F0 m 5 ls (f :: .int n :: .int j :: [])) := by
    intro f hf
    have hcat : f.category = 1 := by rcases hf with rfl | ⟨a, rfl⟩ <;> rfl
    refine js_call (va_runS (As := [.int j, .int n, f]) (rest := []) ⟨hx, hb, hml, hown, hts⟩ (js_cP (B := B) (ex := ex) (X := X) l j n f hf h1 h2) ⟨callB_of 3 hts (zm_good (js_gw jw_P)) rfl rfl rfl (hts _ jn_P) (hts _ jl_String_P) (by decide +kernel) ⟨Nat.le_refl _, Nat.le_refl _⟩, hts _ js_P⟩ ⟨js_blind, fun U hU hWm => ⟨rfl, ?_⟩⟩ rfl rfl (by rw [hl.1]) rfl (by show 2 * 0 + 0 ≤ 8; omega) jd_C_5 ⟨Nat.le_refl _, Nat.le_refl _⟩) ?_
    · show zm_E B ex X U U.heap
      rw [hU]
      exact hE.go hWm (fun _ _ _ => rfl) (Nat.le_refl _)
    · refine lv_pop hx hb jd_C_8 rfl ?_
      exact W.vret hx hb hr (fun t ht hw => ⟨rfl, ht⟩) (fun q hq => by cases hq) jd_C_9
  have hS : va_S (fun q => B ≤ q) s.heap s.heap [] := va_S.rf
  rcases hE.2.2.1 with hz | ⟨t, hz⟩
  · exact va_gets hx hb hz hS hown (hts _ jf_sf) (fun _ h9 => h9) jd_C_2 (key .null (Or.inl rfl))
  · exact va_gets hx hb hz hS hown (hts _ jf_sf) (fun _ h9 => h9) jd_C_2 (key (.ref t) (Or.inr ⟨t, rfl⟩))
set_option maxHeartbeats 4000000 in
theorem js_cL (l : Launch) (a n : Nat) (j : Int32) (f : Nat → Int32) (hn : n < 2 ^ 31) (hj : vp_in j n) (hf : ∀ k, k < n → (f k &&& 255).toUInt32 % 65536 = (f k).toUInt32 ∧ f k &&& 255 = f k) : Met l jy_L (Cond.code jy_L jc_L 2 (some .char) :: zm_TW) (js_rm 2 43) (va_Pc [.ref a, .int j] (fun U => js_Pr B ex X U ∧ va_T .byte a n (fun k => .int (f k)) (fun q => B ≤ q) U U.heap)) (js_Q (some (.int (f j.toNatClampNeg)))) 0 0 (fun _ => False) := by
  refine Met.ofW (cc := jc_L) (maxL := 2) (ret := some .char) (by decide) rfl ?_
  intro p e s m args below meth c s₁ Bd hml hv
  obtain ⟨rfl, hE, hT⟩ := hv
  have hx := Bd.exec
  have hb := Bd.bytes
  have hr := Bd.returns
  have hlocks := Bd.notSynchronized
  have hts : ∀ w ∈ zm_TW, w.before _ s = true := fun w hw => atoms_spec (ws := Cond.code jy_L jc_L 2 (some .char) :: zm_TW) Bd.pre w (List.mem_cons_of_mem _ hw)
  have hown : s.vm.findClass "java/lang/StringLatin1" = some m.cls := findClass_of_methodNamed Bd.named
  have hl := lv_entry ([.ref a, .int j]) (n := 2) (Nat.le_of_ble_eq_true rfl)
  rw [lg_entry_eq]
  generalize (lg_sl ([.ref a, .int j]) ++ List.replicate (2 - (lg_sl ([.ref a, .int j])).length) Slot.unset).toArray = ls at hl ⊢
  have hl : lv_has ls 2 [(0, .ref a), (1, .int j)] := hl
  have hS : va_S (fun q => B ≤ q) s.heap s.heap [] := va_S.rf
  obtain ⟨k, hk, rfl⟩ := vp_in_of hj hn
  have hck : (nI k).toNatClampNeg = k := nI_clamp (by omega)
  refine lv_iload_n hx hb jd_L_0 rfl (lv_at hl 1 rfl) ?_
  refine lv_aload_n hx hb jd_L_1 rfl (lv_at hl 0 rfl) ?_
  refine va_tlen hx hb hT hS rfl jd_L_2 ?_
  refine js_call (va_runS (As := [.int (nI k), .int (Int32.ofNat n)]) (rest := []) ⟨hx, hb, hml, hown, hts⟩ (js_cC (B := B) (ex := ex) (X := X) l (nI k) (nI n) (nI_pos (by omega)) (nI_lt hk hn)) ⟨callB_of 2 hts (zm_good (js_gw jw_C)) rfl rfl rfl (hts _ jn_C) (hts _ jl_StringLatin1_C) (by decide +kernel) ⟨Nat.le_refl _, Nat.le_refl _⟩, hts _ js_C⟩ ⟨js_blind, fun U hU hWm => ⟨rfl, ?_⟩⟩ rfl rfl (by rw [hl.1]) rfl (by show 2 * 0 + 0 ≤ 8; omega) jd_L_3 ⟨Nat.le_refl _, Nat.le_refl _⟩) ?_
  · show zm_E B ex X U U.heap
    rw [hU]
    exact hE.go hWm (fun _ _ _ => rfl) (Nat.le_refl _)
  · refine lv_aload_n hx hb jd_L_6 rfl (lv_at hl 0 rfl) ?_
    refine lv_iload_n hx hb jd_L_7 rfl (lv_at hl 1 rfl) ?_
    refine va_tb hx hb hT hS hj rfl jd_L_8 ?_
    refine lv_sipush (v := 255) hx hb jd_L_9 (by decide) ?_
    refine lv_iand hx hb jd_L_12 ?_
    refine lv_i2c (v := f (nI k).toNatClampNeg) hx hb jd_L_13 ?_ ?_
    · rw [hck]
      rw [(hf k hk).1]
      rfl
    · refine W.zret hx hb hr ?_ (fun t ht hw => ⟨rfl, ht⟩) (fun q hq => by cases hq) jd_L_14
      rw [hck]
      have h1 := (hf k hk).1
      rw [(hf k hk).2] at h1
      show Value.int _ = Value.int _
      congr 1
      exact js_c16 h1
set_option maxHeartbeats 4000000 in
theorem js_cI (l : Launch) (k : Nat) (hk : k < 22) : Met l jy_I (Cond.code jy_I jc_I 1 (some .boolean) :: zm_TW) (js_rm 0 0) (va_Pc [.ref (ex k)] (js_Pr B ex X)) (js_Q (some (.int 1))) 0 0 (fun _ => False) := by
  refine Met.ofW (cc := jc_I) (maxL := 1) (ret := some .boolean) (by decide) rfl ?_
  intro p e s m args below meth c s₁ Bd hml hv
  obtain ⟨rfl, hE⟩ := hv
  have hx := Bd.exec
  have hb := Bd.bytes
  have hr := Bd.returns
  have hlocks := Bd.notSynchronized
  have hts : ∀ w ∈ zm_TW, w.before _ s = true := fun w hw => atoms_spec (ws := Cond.code jy_I jc_I 1 (some .boolean) :: zm_TW) Bd.pre w (List.mem_cons_of_mem _ hw)
  have hown : s.vm.findClass "java/lang/String" = some m.cls := findClass_of_methodNamed Bd.named
  have hl := lv_entry ([.ref (ex k)]) (n := 1) (Nat.le_of_ble_eq_true rfl)
  rw [lg_entry_eq]
  generalize (lg_sl ([.ref (ex k)]) ++ List.replicate (1 - (lg_sl ([.ref (ex k)])).length) Slot.unset).toArray = ls at hl ⊢
  have hl : lv_has ls 1 [(0, .ref (ex k))] := hl
  have hS : va_S (fun q => B ≤ q) s.heap s.heap [] := va_S.rf
  obtain ⟨⟨adV, hstr⟩, hcs, -⟩ := id hE
  obtain ⟨g1, g2, g3, g4⟩ := hstr k hk
  refine va_gets hx hb hcs hS hown (hts _ jf_cs) (fun _ h9 => h9) jd_I_0 ?_
  refine lv_if_eq (tgt := 17) hx hb jd_I_3 (by decide) (fun q => absurd q (by decide)) (fun _ => ?_)
  refine lv_aload_n hx hb jd_I_6 rfl (lv_at hl 0 rfl) ?_
  refine vk_getf hx hb g2 hS hown (hts _ jf_co) (fun _ h9 => h9) jd_I_7 ?_
  refine lv_if_ne (tgt := 17) hx hb jd_I_10 (by decide) (fun q => absurd rfl q) (fun _ => ?_)
  refine lv_iconst (v := 1) hx hb jd_I_13 (by decide) ?_
  refine lv_goto (tgt := 18) hx hb jd_I_14 (by decide) ?_
  exact W.zret hx hb hr rfl (fun t ht hw => ⟨rfl, ht⟩) (fun q hq => by cases hq) jd_I_18
set_option maxHeartbeats 4000000 in
theorem js_cK (l : Launch) (k : Nat) (hk : k < 22) : Met l jy_K (Cond.code jy_K jc_K 1 (some .byte) :: zm_TW) (js_rm 0 0) (va_Pc [.ref (ex k)] (js_Pr B ex X)) (js_Q (some (.int 0))) 0 0 (fun _ => False) := by
  refine Met.ofW (cc := jc_K) (maxL := 1) (ret := some .byte) (by decide) rfl ?_
  intro p e s m args below meth c s₁ Bd hml hv
  obtain ⟨rfl, hE⟩ := hv
  have hx := Bd.exec
  have hb := Bd.bytes
  have hr := Bd.returns
  have hlocks := Bd.notSynchronized
  have hts : ∀ w ∈ zm_TW, w.before _ s = true := fun w hw => atoms_spec (ws := Cond.code jy_K jc_K 1 (some .byte) :: zm_TW) Bd.pre w (List.mem_cons_of_mem _ hw)
  have hown : s.vm.findClass "java/lang/String" = some m.cls := findClass_of_methodNamed Bd.named
  have hl := lv_entry ([.ref (ex k)]) (n := 1) (Nat.le_of_ble_eq_true rfl)
  rw [lg_entry_eq]
  generalize (lg_sl ([.ref (ex k)]) ++ List.replicate (1 - (lg_sl ([.ref (ex k)])).length) Slot.unset).toArray = ls at hl ⊢
  have hl : lv_has ls 1 [(0, .ref (ex k))] := hl
  have hS : va_S (fun q => B ≤ q) s.heap s.heap [] := va_S.rf
  obtain ⟨⟨adV, hstr⟩, hcs, -⟩ := id hE
  obtain ⟨g1, g2, g3, g4⟩ := hstr k hk
  refine va_gets hx hb hcs hS hown (hts _ jf_cs) (fun _ h9 => h9) jd_K_0 ?_
  refine lv_if_eq (tgt := 13) hx hb jd_K_3 (by decide) (fun q => absurd q (by decide)) (fun _ => ?_)
  refine lv_aload_n hx hb jd_K_6 rfl (lv_at hl 0 rfl) ?_
  refine vk_getf hx hb g2 hS hown (hts _ jf_co) (fun _ h9 => h9) jd_K_7 ?_
  refine lv_goto (tgt := 14) hx hb jd_K_10 (by decide) ?_
  exact W.zret hx hb hr rfl (fun t ht hw => ⟨rfl, ht⟩) (fun q hq => by cases hq) jd_K_14
theorem js_recv {s : State} {H : Heap} {locs : List Loc} {k : Nat} (hE : zm_E B ex X s s.heap) (hS : va_S (fun q => B ≤ q) s.heap H locs) (hk : k < 22) : ∃ cell : Cell, H[ex k]? = some cell ∧ cell.vm.isStatics = false ∧ s.vm.findClass "java/lang/String" = some cell.cls := by
  obtain ⟨⟨adV, hstr⟩, -⟩ := hE
  obtain ⟨⟨cell, q1, q2, q3, q4⟩, -⟩ := hstr k hk
  exact ⟨cell, by rw [hS.2.1 _ (Array.getElem?_eq_some_iff.mp q1).1 q4]; exact q1, q2, q3⟩
set_option maxHeartbeats 4000000 in
theorem js_cN (l : Launch) (k : Nat) (hk : k < 22) : Met l jy_N (Cond.code jy_N jc_N 1 (some .int) :: zm_TW) (js_rm 1 20) (va_Pc [.ref (ex k)] (js_Pr B ex X)) (js_Q (some (.int (Int32.ofInt (zm_chars.getD k []).length)))) 0 0 (fun _ => False) := by
  refine Met.ofW (cc := jc_N) (maxL := 1) (ret := some .int) (by decide) rfl ?_
  intro p e s m args below meth c s₁ Bd hml hv
  obtain ⟨rfl, hE⟩ := hv
  have hx := Bd.exec
  have hb := Bd.bytes
  have hr := Bd.returns
  have hlocks := Bd.notSynchronized
  have hts : ∀ w ∈ zm_TW, w.before _ s = true := fun w hw => atoms_spec (ws := Cond.code jy_N jc_N 1 (some .int) :: zm_TW) Bd.pre w (List.mem_cons_of_mem _ hw)
  have hown : s.vm.findClass "java/lang/String" = some m.cls := findClass_of_methodNamed Bd.named
  have hl := lv_entry ([.ref (ex k)]) (n := 1) (Nat.le_of_ble_eq_true rfl)
  rw [lg_entry_eq]
  generalize (lg_sl ([.ref (ex k)]) ++ List.replicate (1 - (lg_sl ([.ref (ex k)])).length) Slot.unset).toArray = ls at hl ⊢
  have hl : lv_has ls 1 [(0, .ref (ex k))] := hl
  have hS : va_S (fun q => B ≤ q) s.heap s.heap [] := va_S.rf
  obtain ⟨⟨adV, hstr⟩, hcs, -⟩ := id hE
  obtain ⟨g1, g2, g3, g4⟩ := hstr k hk
  refine lv_aload_n hx hb jd_N_0 rfl (lv_at hl 0 rfl) ?_
  refine vk_getf hx hb g3 hS hown (hts _ jf_va) (fun _ h9 => h9) jd_N_1 ?_
  refine va_tlen hx hb g4 hS rfl jd_N_4 ?_
  refine lv_aload_n hx hb jd_N_5 rfl (lv_at hl 0 rfl) ?_
  refine js_call (va_runV (As := []) (b := ex k) (rest := [.int (Int32.ofNat (zm_chars.getD k []).length)]) ⟨hx, hb, hml, hown, hts⟩ (js_cK (B := B) (ex := ex) (X := X) l k hk) (cwV 0 (C := "java/lang/String") hts (js_gv jw_K jl_String_K ji_K jse_K jn_K) rfl rfl rfl (by decide +kernel) ⟨Nat.le_refl _, Nat.le_refl _⟩) ⟨js_blind, js_recv hE hS hk, fun U hU hWm => ⟨rfl, ?_⟩⟩ rfl rfl (by rw [hl.1]) rfl (by show 2 * 0 + 1 ≤ 8; omega) jd_N_6 ⟨Nat.le_refl _, Nat.le_refl _⟩) ?_
  · show zm_E B ex X U U.heap
    rw [hU]
    exact hE.go hWm (fun _ _ _ => rfl) (Nat.le_refl _)
  · refine lv_ishr hx hb jd_N_9 ?_
    have e1 : ∀ z : Int32, z >>> ((0 : Int32) &&& 31) = z := fun z => by simp
    rw [e1]
    exact W.iret hx hb hr (fun t ht hw => ⟨by rw [show Int32.ofNat (zm_chars.getD k []).length = Int32.ofInt ((zm_chars.getD k []).length : Int) from (Int32.ofInt_eq_ofNat ..).symm], ht⟩) (fun q hq => by cases hq) jd_N_10
theorem js_mem {l : List Int} {q : Nat} (h : q < l.length) : l.getD q 0 ∈ l := by
  rw [List.getD_eq_getElem?_getD, List.getElem?_eq_getElem h]
  exact List.getElem_mem h
theorem js_inb {j : Int} {n : Nat} (h : zm_inb j n = true) : (n32 j).toNat < n := by
  simp [zm_inb] at h
  omega
theorem js_chars : ∀ k, k < 22 → ((zm_chars.getD k []).length < 20 ∧ ∀ z ∈ zm_chars.getD k [], 97 ≤ z ∧ z ≤ 122) := by decide +kernel
set_option maxHeartbeats 4000000 in
theorem js_cA (l : Launch) (k : Nat) (j : Int) (hk : k < 22) (hj : zm_inb j (zm_chars.getD k []).length = true) : Met l jy_A (Cond.code jy_A jc_A 2 (some .char) :: zm_TW) (js_rm 3 64) (va_Pc [.ref (ex k), .int (Int32.ofInt j)] (js_Pr B ex X)) (js_Q (some (.int (Int32.ofInt ((zm_chars.getD k []).getD (n32 j).toNat 0))))) 0 0 (fun _ => False) := by
  refine Met.ofW (cc := jc_A) (maxL := 2) (ret := some .char) (by decide) rfl ?_
  intro p e s m args below meth c s₁ Bd hml hv
  obtain ⟨rfl, hE⟩ := hv
  have hx := Bd.exec
  have hb := Bd.bytes
  have hr := Bd.returns
  have hlocks := Bd.notSynchronized
  have hts : ∀ w ∈ zm_TW, w.before _ s = true := fun w hw => atoms_spec (ws := Cond.code jy_A jc_A 2 (some .char) :: zm_TW) Bd.pre w (List.mem_cons_of_mem _ hw)
  have hown : s.vm.findClass "java/lang/String" = some m.cls := findClass_of_methodNamed Bd.named
  have hl := lv_entry ([.ref (ex k), .int (Int32.ofInt j)]) (n := 2) (Nat.le_of_ble_eq_true rfl)
  rw [lg_entry_eq]
  generalize (lg_sl ([.ref (ex k), .int (Int32.ofInt j)]) ++ List.replicate (2 - (lg_sl ([.ref (ex k), .int (Int32.ofInt j)])).length) Slot.unset).toArray = ls at hl ⊢
  have hl : lv_has ls 2 [(0, .ref (ex k)), (1, .int (Int32.ofInt j))] := hl
  have hS : va_S (fun q => B ≤ q) s.heap s.heap [] := va_S.rf
  obtain ⟨⟨adV, hstr⟩, hcs, -⟩ := id hE
  obtain ⟨g1, g2, g3, g4⟩ := hstr k hk
  have hPr : ∀ U : State, U.heap = s.heap → s.WarmedH U.vm → zm_E B ex X U U.heap := fun U hU hWm => by
    rw [hU]
    exact hE.go hWm (fun _ _ _ => rfl) (Nat.le_refl _)
  obtain ⟨c1, c2⟩ := js_chars k hk
  refine lv_aload_n hx hb jd_A_0 rfl (lv_at hl 0 rfl) ?_
  refine js_call (va_runV (As := []) (b := ex k) (rest := []) ⟨hx, hb, hml, hown, hts⟩ (js_cI (B := B) (ex := ex) (X := X) l k hk) (cwV 0 (C := "java/lang/String") hts (js_gv jw_I jl_String_I ji_I jse_I jn_I) rfl rfl rfl (by decide +kernel) ⟨by show 0 + 1 ≤ 3; omega, by show 8 + (1 + 11) + 0 ≤ 64; omega⟩) ⟨js_blind, js_recv hE hS hk, fun U hU hWm => ⟨rfl, hPr U hU hWm⟩⟩ rfl rfl (by rw [hl.1]) rfl (by show 2 * 0 + 0 ≤ 8; omega) jd_A_1 ⟨Nat.le_refl _, Nat.le_refl _⟩) ?_
  refine lv_if_eq (tgt := 16) hx hb jd_A_4 (by decide) (fun q => absurd q (by decide)) (fun _ => ?_)
  refine lv_aload_n hx hb jd_A_7 rfl (lv_at hl 0 rfl) ?_
  refine vk_getf hx hb g3 hS hown (hts _ jf_va) (fun _ h9 => h9) jd_A_8 ?_
  refine lv_iload_n hx hb jd_A_11 rfl (lv_at hl 1 rfl) ?_
  refine js_call (va_runS (As := [.ref (adV k), .int (Int32.ofInt j)]) (rest := []) ⟨hx, hb, hml, hown, hts⟩ (js_cL (B := B) (ex := ex) (X := X) l (adV k) (zm_chars.getD k []).length (Int32.ofInt j) (fun q => Int32.ofInt ((zm_chars.getD k []).getD q 0)) (by omega) (zm_inb_in hj) (fun q hq => ?_)) ⟨callB_of 2 hts (zm_good (js_gw jw_L)) rfl rfl rfl (hts _ jn_L) (hts _ jl_String_L) (by decide +kernel) ⟨Nat.le_refl _, Nat.le_refl _⟩, hts _ js_L⟩ ⟨fun a U g mk q => ?_, fun U hU hWm => ⟨rfl, hPr U hU hWm, ?_⟩⟩ rfl rfl (by rw [hl.1]) rfl (by show 2 * 0 + 0 ≤ 8; omega) jd_A_12 ⟨Nat.le_refl _, Nat.le_refl _⟩) ?_
  · have hm : (zm_chars.getD k []).getD q 0 ∈ zm_chars.getD k [] := js_mem hq
    exact js_small (c2 _ hm).1 (c2 _ hm).2
  · obtain ⟨q0, q1, q2⟩ := q
    exact ⟨q0, zm_E.go (U := U.calling g mk a) q1 (State.WarmedH.refl U) (fun _ _ _ => rfl) (Nat.le_refl _), va_T.moved (u := U) (U := U.calling g mk a) (Vm.Alike.refl U.vm) q2⟩
  · rw [hU]
    exact g4.moved hWm.alike
  · refine W.zret hx hb hr ?_ (fun t ht hw => ⟨rfl, ht⟩) (fun q hq => by cases hq) jd_A_15
    have hm : (zm_chars.getD k []).getD (n32 j).toNat 0 ∈ zm_chars.getD k [] := js_mem (js_inb hj)
    have h1 := (js_small (c2 _ hm).1 (c2 _ hm).2)
    have h2 := h1.1
    rw [h1.2] at h2
    show Value.int _ = Value.int _
    congr 1
    exact js_c16 h2
set_option maxHeartbeats 4000000 in
theorem zm_SR_ok : zm_SR := by
  intro dC dI cy B ex X d M p l e R s m args below meth c H locs cells slots Q pc ls rest i k C hS hls hk hsum hc0 hs0
  obtain ⟨hx, hb, hml, hown, hts, hK, hBs, hnm, hfr, hlo, hE⟩ := C
  have hPr : ∀ U : State, U.heap = H → s.WarmedH U.vm → zm_E B ex X U U.heap := fun U hU hWm => by
    rw [hU]
    exact hE.go hWm (fun a g1 g2 => hS.2.1 a g1 g2) hS.1
  have hlo2 : 1000 ≤ R.locals := by omega
  constructor
  · rintro ⟨t, y, hf⟩ hd kk
    have hw := (zm_lk_word hf).1
    have hy := (zm_kind hf).2.2.2.2.2.1 rfl
    subst hy
    refine js_call (va_runV (As := []) (b := ex k) (rest := rest) ⟨hx, hb, hml, hown, hts⟩ (js_cN (B := B) (ex := ex) (X := X) l k hk) (cwV 0 (C := "java/lang/String") hts (js_gv jw_N hw.1 ji_N jse_N jn_N) rfl rfl rfl (by decide +kernel) ⟨by show 1 + 1 ≤ _; omega, by show 8 + (1 + 11) + 20 ≤ _; omega⟩) ⟨js_blind, js_recv hE hS hk, fun U hU hWm => ⟨rfl, hPr U hU hWm⟩⟩ rfl rfl hls rfl (lv_room hsum) hd ⟨by omega, by omega⟩) (kk locs hS)
  · rintro j hj ⟨t, y, hf⟩ hd kk
    have hw := (zm_lk_word hf).1
    have hy := (zm_kind hf).2.2.2.2.2.2 rfl
    subst hy
    refine js_call (va_runV (As := [.int (Int32.ofInt j)]) (b := ex k) (rest := rest) ⟨hx, hb, hml, hown, hts⟩ (js_cA (B := B) (ex := ex) (X := X) l k j hk hj) (cwV 1 (C := "java/lang/String") hts (js_gv jw_A hw.1 ji_A jse_A jn_A) rfl rfl rfl (by decide +kernel) ⟨by show 3 + 1 ≤ _; omega, by show 8 + (2 + 11) + 64 ≤ _; omega⟩) ⟨js_blind, js_recv hE hS hk, fun U hU hWm => ⟨rfl, hPr U hU hWm⟩⟩ rfl rfl hls rfl (lv_room hsum) hd ⟨by omega, by omega⟩) (kk locs hS)
end ZJ

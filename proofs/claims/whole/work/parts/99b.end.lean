/-! the start, and the end -/
def zE0 : Nat → Int → Int := fun a b => zD0 a b.toNat
theorem zRf_hi {p q a b : Nat} (h : 40 ≤ b) : zRf p q a b = none := by
  unfold zRf
  simp only [show ¬ b = 0 by omega, show ¬ b = 1 by omega, show ¬ b = 2 by omega, show ¬ b = 3 by omega, show ¬ b = 4 by omega, show ¬ b = 5 by omega, show ¬ b = 6 by omega, show ¬ b = 7 by omega, show ¬ b = 8 by omega, show ¬ b = 9 by omega, show ¬ b = 10 by omega, show ¬ b = 11 by omega, show ¬ b = 12 by omega, show ¬ b = 13 by omega, show ¬ b = 14 by omega, show ¬ b = 15 by omega, show ¬ b = 16 by omega, show ¬ b = 17 by omega, show ¬ b = 18 by omega, show ¬ b = 19 by omega, show ¬ b = 20 by omega, show ¬ b = 21 by omega, show ¬ b = 22 by omega, show ¬ b = 23 by omega, show ¬ b = 24 by omega, show ¬ b = 25 by omega, show ¬ b = 26 by omega, show ¬ b = 27 by omega, show ¬ b = 28 by omega, show ¬ b = 29 by omega, show ¬ b = 30 by omega, show ¬ b = 31 by omega, show ¬ b = 32 by omega, show ¬ b = 33 by omega, show ¬ b = 34 by omega, show ¬ b = 35 by omega, show ¬ b = 36 by omega, show ¬ b = 37 by omega, show ¬ b = 38 by omega, show ¬ b = 39 by omega, if_false, ite_self]
theorem zRf_ha {p q a b : Nat} (h : 78 ≤ a) : zRf p q a b = none := by
  unfold zRf
  simp only [show ¬ a = 0 by omega, show ¬ a = 1 by omega, show ¬ a = 2 by omega, show ¬ a = 6 by omega, show ¬ a = 9 by omega, show ¬ a = 10 by omega, show ¬ a = 15 by omega, show ¬ a = 21 by omega, show ¬ a = 28 by omega, show ¬ a = 33 by omega, show ¬ a = 34 by omega, show ¬ a = 40 by omega, show ¬ a = 50 by omega, show ¬ a = 60 by omega, if_false]
theorem zD0_r0 : ∀ a : Fin 78, ∀ b : Fin 40, zRf 40 50 a.val b.val = none ∨ zRf 40 50 a.val b.val = some (zD0 a.val b.val).toNat ∧ 0 ≤ zD0 a.val b.val := by decide +kernel
theorem zD0_eq : zD0 = zD 40 50 zE0 := by
  funext a b
  unfold zD
  cases h : zRf 40 50 a b with
  | none => rfl
  | some r =>
    show zD0 a b = (r : Int)
    have ha : a < 78 := by
      by_cases g : a < 78
      · exact g
      · rw [zRf_ha (by omega)] at h; cases h
    have hb : b < 40 := by
      by_cases g : b < 40
      · exact g
      · rw [zRf_hi (by omega)] at h; cases h
    rcases zD0_r0 ⟨a, ha⟩ ⟨b, hb⟩ with w | ⟨w, z⟩
    · have w : zRf 40 50 a b = none := w
      rw [w] at h; cases h
    · have w : zRf 40 50 a b = some (zD0 a b).toNat := w
      have z : 0 ≤ zD0 a b := z
      rw [w] at h
      have h := Option.some.inj h
      omega
theorem zD0_41 : ∀ c : Fin 39, zD0 41 c.val = 0 := by decide +kernel
theorem zD0_63 : ∀ c : Fin 171, zD0 63 c.val = 0 := by decide +kernel
theorem zD0_65 : ∀ c : Fin 39, zD0 65 c.val = 0 := by decide +kernel
theorem zE0_c {a N : Nat} (h : ∀ c : Fin N, zD0 a c.val = 0) {c : Int} (h1 : 0 ≤ c) (h2 : c < N) : zE0 a c = 0 := h ⟨c.toNat, by omega⟩
theorem zE0_J : zJ zE0 40 50 0 := by
  have v : ∀ k : Int, (((fun _ => 0 : Int → Fin 65537) k).val : Int) = 0 := fun k => rfl
  have w : ∀ c : Int, 0 ≤ c → c < 39 → zE0 41 c = 0 := fun c a b => zE0_c zD0_41 a b
  refine ⟨fun _ => 0, fun _ _ => 0, fun _ _ => 0, 0, 0, ⟨Or.inl rfl, ⟨by decide +kernel, fun m a b => ?_, fun m a b => ?_, fun m a b => ?_, fun m a b => ?_, fun m a b => ?_, fun m a b => ?_, fun m a b => ?_, ⟨?_, ?_⟩, fun m a b => ?_, fun m a b => ?_, fun m a b => ?_⟩, ⟨fun k a b => ?_, fun k a b => ?_⟩, Or.inr ⟨fun _ => rfl, by decide +kernel⟩⟩, ⟨Or.inr rfl, by decide⟩, ⟨by decide +kernel, by decide +kernel, by decide +kernel⟩, ⟨by decide +kernel, fun k a b => ?_⟩, ⟨by decide +kernel, by decide +kernel, fun j a b => by omega, fun j a b => by omega⟩, ⟨by decide +kernel, fun j a b => by omega, fun j a b => by omega⟩, ⟨by decide, by decide, Or.inr ⟨fun _ => rfl, rfl, rfl⟩⟩⟩
  · exact w _ (by omega) (by omega)
  · exact w _ (by omega) (by omega)
  · exact w _ (by omega) (by omega)
  · exact w _ (by omega) (by omega)
  · exact w _ (by omega) (by omega)
  · exact w _ (by omega) (by omega)
  · exact w _ (by omega) (by omega)
  · exact w _ (by omega) (by omega)
  · exact w _ (by omega) (by omega)
  · have b : m < 0 := b
    omega
  · have b : m < 0 := b
    omega
  · have b : m < 0 := b
    omega
  · exact zE0_c zD0_63 a b
  · exact zE0_c zD0_65 a b
  · have e : zE0 2 1 = 0 := by decide +kernel
    rw [e] at b
    omega
theorem zm_ns_rep : ∀ c : Nat, zm_ns (zSh ++ List.replicate c (30, 6)) = zm_ns zSh + 6 * c := by
  intro c
  induction c with
  | zero =>
    show zm_ns (zSh ++ []) = zm_ns zSh + 0
    rw [List.append_nil, Nat.add_zero]
  | succ c ih =>
    rw [List.replicate_succ', ← List.append_assoc, zm_ns_app, ih]
    omega
theorem zm_ns_Sh : zm_ns zSh ≤ 10000 := by decide +kernel
theorem lawP : zf_lawP := by
  intro L f hL hf
  obtain ⟨c, p, q, F, h1, h2⟩ := law_loop (X := (L, f)) (d := 19) (fun j => ⟨(hf j).1, Int.lt_add_one_of_le (hf j).2⟩) hL hallP 512 0 0 0 40 50 zE0 vJ vJ zE0_J (by omega) (by omega) (by show (L : Int) < _; omega) (by omega) (by omega)
  have e : zH (List.replicate 0 (30, 6)) 40 50 zE0 = (zSh, zD0) := by
    unfold zH
    rw [← zD0_eq]
    show (zSh ++ [], zD0) = _
    rw [List.append_nil]
  rw [e] at h1
  refine ⟨zH (List.replicate c (30, 6)) p q F, ?_, ?_, ?_⟩
  · show zf_ev (L, f) (19 + 21) 318 (0, [vX 1000, vJ, vJ, vJ, vJ, vJ, vJ], [], [], fun _ _ => 0) = _
    rw [law_pro]
    exact h1
  · show (zSh ++ List.replicate c (30, 6)).length ≤ 601024
    rw [List.length_append, List.length_replicate]
    have : zSh.length = 78 := rfl
    omega
  · show zm_ns (zSh ++ List.replicate c (30, 6)) ≤ 7293033
    rw [zm_ns_rep]
    have := zm_ns_Sh
    omega
theorem i_vc : Claimed_1_1 ∧ Claimed_1_2 := ⟨lw_limb lawP limb_1_1 (fun _ _ _ => rfl), lw_limb lawP limb_1_2 (fun _ _ _ => rfl)⟩

/-! each case of the law's switch; printed by genlaw.py -/
theorem zk1 {X : Nat × (Nat → Int)} {d M pc npc : Nat} {loc st : List ZV} {h : ZH} {v : ZV} (hn : pc + 3 = npc) : zf_k X d M pc loc st (some (some [v], h)) = zf_ev X d M (npc, loc, v :: st, h) := by
  subst hn
  rfl
theorem zm_lcmp_self {v : Int} : zm_lcmp v v = 0 := by
  unfold zm_lcmp
  rw [if_neg (by omega), if_pos rfl]
/-- what the call of hall does on both sides -/
def zHallP : Prop := ∀ (X : Nat × (Nat → Int)) (d : Nat) (t : List (Nat × Nat)) (p q : Nat) (E : Nat → Int → Int) (n k : Int), 0 ≤ n → zJ E p q n → (-2147483648 ≤ k ∧ k < 2147483648) → ∃ v F H p' q', zf_ev X (d + 20) 115 (0, [vR 0, vI k, vJ], [], zH t p q E) = some (some [vI v], zH t p' q' F) ∧ zf_ev X (d + 20) 200 (0, [vR 60, vI k, vJ], [], zH t p' q' F) = some (some [vI v], zH t p' q' H) ∧ zJ H p' q' (n + 1)
section LW
variable {X : Nat × (Nat → Int)} {d : Nat} {t : List (Nat × Nat)} {p q : Nat} {E : Nat → Int → Int} {n i : Int} {j5 j6 : ZV}

theorem K0 (hX : ∀ j, -2147483648 ≤ X.2 j ∧ X.2 j < 2147483648) (hx : ∀ c, 0 ≤ c → c ≤ 5 → 0 ≤ n32 (i + c) ∧ n32 (i + c) < X.1) (hn : 0 ≤ n ∧ n ≤ 600) (hJ : zJ E p q n) : ∃ t' p' q' F k5 k6, zf_ev X (d + 21) 318 (268, [vX 1000, vR 0, vR 60, vR 77, vI i, j5, j6], [], zH t p q E) = zf_ev X (d + 21) 318 (23, [vX 1000, vR 0, vR 60, vR 77, vI (i + 6), k5, k6], [], zH t' p' q' F) ∧ zJ F p' q' (n + 1) ∧ (t' = t ∨ t' = t ++ [(30, 6)]) := by
  obtain ⟨V, U, T, y, im, h⟩ := hJ
  obtain ⟨v, F, H, f1, y1, hj⟩ := C114 (X := X) (d := d) (t := t) h (a := (X.2 (n32 (i + 1)).toNat)) (b := (X.2 (n32 (i + 2)).toNat)) (c := (X.2 (n32 (i + 3)).toNat)) (e := (X.2 (n32 (i + 4)).toNat)) (f := (X.2 (n32 (i + 5)).toNat)) 
  refine ⟨t, p, q, H, j5, j6, ?_, hj, Or.inl rfl⟩
  rw [e318_268, e318_269, e318_270, e318_272, e318_273, e318_274 (hx 1 (by decide) (by decide)).1 (hx 1 (by decide) (by decide)).2, e318_275, e318_276, e318_278, e318_279, e318_280 (hx 2 (by decide) (by decide)).1 (hx 2 (by decide) (by decide)).2, e318_281, e318_282, e318_284, e318_285, e318_286 (hx 3 (by decide) (by decide)).1 (hx 3 (by decide) (by decide)).2, e318_287, e318_288, e318_290, e318_291, e318_292 (hx 4 (by decide) (by decide)).1 (hx 4 (by decide) (by decide)).2, e318_293, e318_294, e318_296, e318_297, e318_298 (hx 5 (by decide) (by decide)).1 (hx 5 (by decide) (by decide)).2, e318_299 rfl (Nat.le_of_ble_eq_true rfl), f1, zk1 (npc := 302) rfl, e318_302, e318_303, e318_304, e318_306, e318_307, e318_308 (hx 1 (by decide) (by decide)).1 (hx 1 (by decide) (by decide)).2, e318_309, e318_310, e318_312, e318_313, e318_314 (hx 2 (by decide) (by decide)).1 (hx 2 (by decide) (by decide)).2, e318_315, e318_316, e318_318, e318_319, e318_320 (hx 3 (by decide) (by decide)).1 (hx 3 (by decide) (by decide)).2, e318_321, e318_322, e318_324, e318_325, e318_326 (hx 4 (by decide) (by decide)).1 (hx 4 (by decide) (by decide)).2, e318_327, e318_328, e318_330, e318_331, e318_332 (hx 5 (by decide) (by decide)).1 (hx 5 (by decide) (by decide)).2, e318_333 rfl (Nat.le_of_ble_eq_true rfl), y1, zk1 (npc := 336) rfl, e318_336, if_pos rfl, e318_1941 rfl, e318_1944]
theorem K1 (hX : ∀ j, -2147483648 ≤ X.2 j ∧ X.2 j < 2147483648) (hx : ∀ c, 0 ≤ c → c ≤ 5 → 0 ≤ n32 (i + c) ∧ n32 (i + c) < X.1) (hn : 0 ≤ n ∧ n ≤ 600) (hJ : zJ E p q n) (hH : zHallP) : ∃ t' p' q' F k5 k6, zf_ev X (d + 21) 318 (341, [vX 1000, vR 0, vR 60, vR 77, vI i, j5, j6], [], zH t p q E) = zf_ev X (d + 21) 318 (23, [vX 1000, vR 0, vR 60, vR 77, vI (i + 6), k5, k6], [], zH t' p' q' F) ∧ zJ F p' q' (n + 1) ∧ (t' = t ∨ t' = t ++ [(30, 6)]) := by
  obtain ⟨v, F, H, p', q', f1, y1, hj⟩ := hH X d t p q E n (X.2 (n32 (i + 1)).toNat) hn.1 hJ (hX _)
  refine ⟨t, p', q', H, j5, j6, ?_, hj, Or.inl rfl⟩
  rw [e318_341, e318_342, e318_343, e318_345, e318_346, e318_347 (hx 1 (by decide) (by decide)).1 (hx 1 (by decide) (by decide)).2, e318_348 rfl (Nat.le_of_ble_eq_true rfl), f1, zk1 (npc := 351) rfl, e318_351, e318_352, e318_353, e318_355, e318_356, e318_357 (hx 1 (by decide) (by decide)).1 (hx 1 (by decide) (by decide)).2, e318_358 rfl (Nat.le_of_ble_eq_true rfl), y1, zk1 (npc := 361) rfl, e318_361, if_pos rfl, e318_1941 rfl, e318_1944]
theorem K2 (hX : ∀ j, -2147483648 ≤ X.2 j ∧ X.2 j < 2147483648) (hx : ∀ c, 0 ≤ c → c ≤ 5 → 0 ≤ n32 (i + c) ∧ n32 (i + c) < X.1) (hn : 0 ≤ n ∧ n ≤ 600) (hJ : zJ E p q n) : ∃ t' p' q' F k5 k6, zf_ev X (d + 21) 318 (366, [vX 1000, vR 0, vR 60, vR 77, vI i, j5, j6], [], zH t p q E) = zf_ev X (d + 21) 318 (23, [vX 1000, vR 0, vR 60, vR 77, vI (i + 6), k5, k6], [], zH t' p' q' F) ∧ zJ F p' q' (n + 1) ∧ (t' = t ∨ t' = t ++ [(30, 6)]) := by
  obtain ⟨V, U, T, y, im, h⟩ := hJ
  obtain ⟨v, F, H, f1, y1, hj⟩ := C116 (X := X) (d := d) (t := t) h  
  refine ⟨t, p, q, H, j5, j6, ?_, hj, Or.inl rfl⟩
  rw [e318_366, e318_367 rfl (Nat.le_of_ble_eq_true rfl), f1, zk1 (npc := 370) rfl, e318_370, e318_371 rfl (Nat.le_of_ble_eq_true rfl), y1, zk1 (npc := 374) rfl, e318_374, if_pos rfl, e318_1941 rfl, e318_1944]
theorem K3 (hX : ∀ j, -2147483648 ≤ X.2 j ∧ X.2 j < 2147483648) (hx : ∀ c, 0 ≤ c → c ≤ 5 → 0 ≤ n32 (i + c) ∧ n32 (i + c) < X.1) (hn : 0 ≤ n ∧ n ≤ 600) (hJ : zJ E p q n) : ∃ t' p' q' F k5 k6, zf_ev X (d + 21) 318 (379, [vX 1000, vR 0, vR 60, vR 77, vI i, j5, j6], [], zH t p q E) = zf_ev X (d + 21) 318 (23, [vX 1000, vR 0, vR 60, vR 77, vI (i + 6), k5, k6], [], zH t' p' q' F) ∧ zJ F p' q' (n + 1) ∧ (t' = t ∨ t' = t ++ [(30, 6)]) := by
  obtain ⟨V, U, T, y, im, h⟩ := hJ
  obtain ⟨v, F, H, f1, y1, hj⟩ := C117 (X := X) (d := d) (t := t) h  
  refine ⟨t, p, q, H, j5, j6, ?_, hj, Or.inl rfl⟩
  rw [e318_379, e318_380 rfl (Nat.le_of_ble_eq_true rfl), f1, zk1 (npc := 383) rfl, e318_383, e318_384 rfl (Nat.le_of_ble_eq_true rfl), y1, zk1 (npc := 387) rfl, e318_387, if_pos rfl, e318_1941 rfl, e318_1944]
theorem K4 (hX : ∀ j, -2147483648 ≤ X.2 j ∧ X.2 j < 2147483648) (hx : ∀ c, 0 ≤ c → c ≤ 5 → 0 ≤ n32 (i + c) ∧ n32 (i + c) < X.1) (hn : 0 ≤ n ∧ n ≤ 600) (hJ : zJ E p q n) : ∃ t' p' q' F k5 k6, zf_ev X (d + 21) 318 (392, [vX 1000, vR 0, vR 60, vR 77, vI i, j5, j6], [], zH t p q E) = zf_ev X (d + 21) 318 (23, [vX 1000, vR 0, vR 60, vR 77, vI (i + 6), k5, k6], [], zH t' p' q' F) ∧ zJ F p' q' (n + 1) ∧ (t' = t ∨ t' = t ++ [(30, 6)]) := by
  obtain ⟨V, U, T, y, im, h⟩ := hJ
  obtain ⟨v, F, H, f1, y1, hj⟩ := C118 (X := X) (d := d) (t := t) h (s := (X.2 (n32 (i + 1)).toNat)) (w := (X.2 (n32 (i + 2)).toNat)) (hX _) (hX _)
  refine ⟨t, p, q, H, j5, j6, ?_, hj, Or.inl rfl⟩
  rw [e318_392, e318_393, e318_394, e318_396, e318_397, e318_398 (hx 1 (by decide) (by decide)).1 (hx 1 (by decide) (by decide)).2, e318_399, e318_400, e318_402, e318_403, e318_404 (hx 2 (by decide) (by decide)).1 (hx 2 (by decide) (by decide)).2, e318_405 rfl (Nat.le_of_ble_eq_true rfl), f1, zk1 (npc := 408) rfl, e318_408, e318_409, e318_410, e318_412, e318_413, e318_414 (hx 1 (by decide) (by decide)).1 (hx 1 (by decide) (by decide)).2, e318_415, e318_416, e318_418, e318_419, e318_420 (hx 2 (by decide) (by decide)).1 (hx 2 (by decide) (by decide)).2, e318_421 rfl (Nat.le_of_ble_eq_true rfl), y1, zk1 (npc := 424) rfl, e318_424, if_pos rfl, e318_1941 rfl, e318_1944]
theorem K5 (hX : ∀ j, -2147483648 ≤ X.2 j ∧ X.2 j < 2147483648) (hx : ∀ c, 0 ≤ c → c ≤ 5 → 0 ≤ n32 (i + c) ∧ n32 (i + c) < X.1) (hn : 0 ≤ n ∧ n ≤ 600) (hJ : zJ E p q n) : ∃ t' p' q' F k5 k6, zf_ev X (d + 21) 318 (429, [vX 1000, vR 0, vR 60, vR 77, vI i, j5, j6], [], zH t p q E) = zf_ev X (d + 21) 318 (23, [vX 1000, vR 0, vR 60, vR 77, vI (i + 6), k5, k6], [], zH t' p' q' F) ∧ zJ F p' q' (n + 1) ∧ (t' = t ∨ t' = t ++ [(30, 6)]) := by
  obtain ⟨V, U, T, y, im, h⟩ := hJ
  obtain ⟨v, F, H, f1, y1, hj⟩ := C119 (X := X) (d := d) (t := t) h (m := (X.2 (n32 (i + 1)).toNat)) (w := (X.2 (n32 (i + 2)).toNat)) (hX _) (hX _)
  refine ⟨t, p, q, H, j5, j6, ?_, hj, Or.inl rfl⟩
  rw [e318_429, e318_430, e318_431, e318_433, e318_434, e318_435 (hx 1 (by decide) (by decide)).1 (hx 1 (by decide) (by decide)).2, e318_436, e318_437, e318_439, e318_440, e318_441 (hx 2 (by decide) (by decide)).1 (hx 2 (by decide) (by decide)).2, e318_442 rfl (Nat.le_of_ble_eq_true rfl), f1, zk1 (npc := 445) rfl, e318_445, e318_446, e318_447, e318_449, e318_450, e318_451 (hx 1 (by decide) (by decide)).1 (hx 1 (by decide) (by decide)).2, e318_452, e318_453, e318_455, e318_456, e318_457 (hx 2 (by decide) (by decide)).1 (hx 2 (by decide) (by decide)).2, e318_458 rfl (Nat.le_of_ble_eq_true rfl), y1, zk1 (npc := 461) rfl, e318_461, if_pos rfl, e318_1941 rfl, e318_1944]
theorem K6 (hX : ∀ j, -2147483648 ≤ X.2 j ∧ X.2 j < 2147483648) (hx : ∀ c, 0 ≤ c → c ≤ 5 → 0 ≤ n32 (i + c) ∧ n32 (i + c) < X.1) (hn : 0 ≤ n ∧ n ≤ 600) (hJ : zJ E p q n) : ∃ t' p' q' F k5 k6, zf_ev X (d + 21) 318 (466, [vX 1000, vR 0, vR 60, vR 77, vI i, j5, j6], [], zH t p q E) = zf_ev X (d + 21) 318 (23, [vX 1000, vR 0, vR 60, vR 77, vI (i + 6), k5, k6], [], zH t' p' q' F) ∧ zJ F p' q' (n + 1) ∧ (t' = t ∨ t' = t ++ [(30, 6)]) := by
  obtain ⟨V, U, T, y, im, h⟩ := hJ
  obtain ⟨v, F, H, f1, y1, hj⟩ := C120 (X := X) (d := d) (t := t) h (r := (X.2 (n32 (i + 1)).toNat)) (hX _)
  refine ⟨t, p, q, H, j5, j6, ?_, hj, Or.inl rfl⟩
  rw [e318_466, e318_467, e318_468, e318_470, e318_471, e318_472 (hx 1 (by decide) (by decide)).1 (hx 1 (by decide) (by decide)).2, e318_473 rfl (Nat.le_of_ble_eq_true rfl), f1, zk1 (npc := 476) rfl, e318_476, e318_477, e318_478, e318_480, e318_481, e318_482 (hx 1 (by decide) (by decide)).1 (hx 1 (by decide) (by decide)).2, e318_483 rfl (Nat.le_of_ble_eq_true rfl), y1, zk1 (npc := 486) rfl, e318_486, if_pos rfl, e318_1941 rfl, e318_1944]
theorem K7 (hX : ∀ j, -2147483648 ≤ X.2 j ∧ X.2 j < 2147483648) (hx : ∀ c, 0 ≤ c → c ≤ 5 → 0 ≤ n32 (i + c) ∧ n32 (i + c) < X.1) (hn : 0 ≤ n ∧ n ≤ 600) (hJ : zJ E p q n) : ∃ t' p' q' F k5 k6, zf_ev X (d + 21) 318 (491, [vX 1000, vR 0, vR 60, vR 77, vI i, j5, j6], [], zH t p q E) = zf_ev X (d + 21) 318 (23, [vX 1000, vR 0, vR 60, vR 77, vI (i + 6), k5, k6], [], zH t' p' q' F) ∧ zJ F p' q' (n + 1) ∧ (t' = t ∨ t' = t ++ [(30, 6)]) := by
  obtain ⟨V, U, T, y, im, h⟩ := hJ
  obtain ⟨v, F, H, f1, y1, hj⟩ := C121 (X := X) (d := d) (t := t) h (c := (X.2 (n32 (i + 1)).toNat)) (r := (X.2 (n32 (i + 2)).toNat)) (hX _) (hX _)
  refine ⟨t, p, q, H, j5, j6, ?_, hj, Or.inl rfl⟩
  rw [e318_491, e318_492, e318_493, e318_495, e318_496, e318_497 (hx 1 (by decide) (by decide)).1 (hx 1 (by decide) (by decide)).2, e318_498, e318_499, e318_501, e318_502, e318_503 (hx 2 (by decide) (by decide)).1 (hx 2 (by decide) (by decide)).2, e318_504 rfl (Nat.le_of_ble_eq_true rfl), f1, zk1 (npc := 507) rfl, e318_507, e318_508, e318_509, e318_511, e318_512, e318_513 (hx 1 (by decide) (by decide)).1 (hx 1 (by decide) (by decide)).2, e318_514, e318_515, e318_517, e318_518, e318_519 (hx 2 (by decide) (by decide)).1 (hx 2 (by decide) (by decide)).2, e318_520 rfl (Nat.le_of_ble_eq_true rfl), y1, zk1 (npc := 523) rfl, e318_523, if_pos rfl, e318_1941 rfl, e318_1944]
theorem K8 (hX : ∀ j, -2147483648 ≤ X.2 j ∧ X.2 j < 2147483648) (hx : ∀ c, 0 ≤ c → c ≤ 5 → 0 ≤ n32 (i + c) ∧ n32 (i + c) < X.1) (hn : 0 ≤ n ∧ n ≤ 600) (hJ : zJ E p q n) : ∃ t' p' q' F k5 k6, zf_ev X (d + 21) 318 (528, [vX 1000, vR 0, vR 60, vR 77, vI i, j5, j6], [], zH t p q E) = zf_ev X (d + 21) 318 (23, [vX 1000, vR 0, vR 60, vR 77, vI (i + 6), k5, k6], [], zH t' p' q' F) ∧ zJ F p' q' (n + 1) ∧ (t' = t ∨ t' = t ++ [(30, 6)]) := by
  obtain ⟨V, U, T, y, im, h⟩ := hJ
  obtain ⟨v, F, H, f1, y1, hj⟩ := C122 (X := X) (d := d) (t := t) h (m := (X.2 (n32 (i + 1)).toNat)) (hX _)
  refine ⟨t, p, q, H, j5, j6, ?_, hj, Or.inl rfl⟩
  rw [e318_528, e318_529, e318_530, e318_532, e318_533, e318_534 (hx 1 (by decide) (by decide)).1 (hx 1 (by decide) (by decide)).2, e318_535 rfl (Nat.le_of_ble_eq_true rfl), f1, zk1 (npc := 538) rfl, e318_538, e318_539, e318_540, e318_542, e318_543, e318_544 (hx 1 (by decide) (by decide)).1 (hx 1 (by decide) (by decide)).2, e318_545 rfl (Nat.le_of_ble_eq_true rfl), y1, zk1 (npc := 548) rfl, e318_548, if_pos rfl, e318_1941 rfl, e318_1944]
theorem K9 (hX : ∀ j, -2147483648 ≤ X.2 j ∧ X.2 j < 2147483648) (hx : ∀ c, 0 ≤ c → c ≤ 5 → 0 ≤ n32 (i + c) ∧ n32 (i + c) < X.1) (hn : 0 ≤ n ∧ n ≤ 600) (hJ : zJ E p q n) : ∃ t' p' q' F k5 k6, zf_ev X (d + 21) 318 (553, [vX 1000, vR 0, vR 60, vR 77, vI i, j5, j6], [], zH t p q E) = zf_ev X (d + 21) 318 (23, [vX 1000, vR 0, vR 60, vR 77, vI (i + 6), k5, k6], [], zH t' p' q' F) ∧ zJ F p' q' (n + 1) ∧ (t' = t ∨ t' = t ++ [(30, 6)]) := by
  obtain ⟨V, U, T, y, im, h⟩ := hJ
  obtain ⟨v, F, H, f1, y1, hj⟩ := C123 (X := X) (d := d) (t := t) h (m := (X.2 (n32 (i + 1)).toNat)) (hX _)
  refine ⟨t, p, q, H, j5, j6, ?_, hj, Or.inl rfl⟩
  rw [e318_553, e318_554, e318_555, e318_557, e318_558, e318_559 (hx 1 (by decide) (by decide)).1 (hx 1 (by decide) (by decide)).2, e318_560 rfl (Nat.le_of_ble_eq_true rfl), f1, zk1 (npc := 563) rfl, e318_563, e318_564, e318_565, e318_567, e318_568, e318_569 (hx 1 (by decide) (by decide)).1 (hx 1 (by decide) (by decide)).2, e318_570 rfl (Nat.le_of_ble_eq_true rfl), y1, zk1 (npc := 573) rfl, e318_573, if_pos rfl, e318_1941 rfl, e318_1944]
theorem K10 (hX : ∀ j, -2147483648 ≤ X.2 j ∧ X.2 j < 2147483648) (hx : ∀ c, 0 ≤ c → c ≤ 5 → 0 ≤ n32 (i + c) ∧ n32 (i + c) < X.1) (hn : 0 ≤ n ∧ n ≤ 600) (hJ : zJ E p q n) : ∃ t' p' q' F k5 k6, zf_ev X (d + 21) 318 (578, [vX 1000, vR 0, vR 60, vR 77, vI i, j5, j6], [], zH t p q E) = zf_ev X (d + 21) 318 (23, [vX 1000, vR 0, vR 60, vR 77, vI (i + 6), k5, k6], [], zH t' p' q' F) ∧ zJ F p' q' (n + 1) ∧ (t' = t ∨ t' = t ++ [(30, 6)]) := by
  obtain ⟨V, U, T, y, im, h⟩ := hJ
  obtain ⟨v, F, H, f1, y1, hj⟩ := C124 (X := X) (d := d) (t := t) h (c := (X.2 (n32 (i + 1)).toNat)) (r := (X.2 (n32 (i + 2)).toNat)) (hX _) (hX _)
  refine ⟨t, p, q, H, j5, j6, ?_, hj, Or.inl rfl⟩
  rw [e318_578, e318_579, e318_580, e318_582, e318_583, e318_584 (hx 1 (by decide) (by decide)).1 (hx 1 (by decide) (by decide)).2, e318_585, e318_586, e318_588, e318_589, e318_590 (hx 2 (by decide) (by decide)).1 (hx 2 (by decide) (by decide)).2, e318_591 rfl (Nat.le_of_ble_eq_true rfl), f1, zk1 (npc := 594) rfl, e318_594, e318_595, e318_596, e318_598, e318_599, e318_600 (hx 1 (by decide) (by decide)).1 (hx 1 (by decide) (by decide)).2, e318_601, e318_602, e318_604, e318_605, e318_606 (hx 2 (by decide) (by decide)).1 (hx 2 (by decide) (by decide)).2, e318_607 rfl (Nat.le_of_ble_eq_true rfl), y1, zk1 (npc := 610) rfl, e318_610, if_pos rfl, e318_1941 rfl, e318_1944]
theorem K11 (hX : ∀ j, -2147483648 ≤ X.2 j ∧ X.2 j < 2147483648) (hx : ∀ c, 0 ≤ c → c ≤ 5 → 0 ≤ n32 (i + c) ∧ n32 (i + c) < X.1) (hn : 0 ≤ n ∧ n ≤ 600) (hJ : zJ E p q n) : ∃ t' p' q' F k5 k6, zf_ev X (d + 21) 318 (615, [vX 1000, vR 0, vR 60, vR 77, vI i, j5, j6], [], zH t p q E) = zf_ev X (d + 21) 318 (23, [vX 1000, vR 0, vR 60, vR 77, vI (i + 6), k5, k6], [], zH t' p' q' F) ∧ zJ F p' q' (n + 1) ∧ (t' = t ∨ t' = t ++ [(30, 6)]) := by
  obtain ⟨V, U, T, y, im, h⟩ := hJ
  obtain ⟨v, F, H, f1, y1, hj⟩ := C125 (X := X) (d := d) (t := t) h  
  refine ⟨t, p, q, H, j5, j6, ?_, hj, Or.inl rfl⟩
  rw [e318_615, e318_616 rfl (Nat.le_of_ble_eq_true rfl), f1, zk1 (npc := 619) rfl, e318_619, e318_620 rfl (Nat.le_of_ble_eq_true rfl), y1, zk1 (npc := 623) rfl, e318_623, if_pos rfl, e318_1941 rfl, e318_1944]
theorem K12 (hX : ∀ j, -2147483648 ≤ X.2 j ∧ X.2 j < 2147483648) (hx : ∀ c, 0 ≤ c → c ≤ 5 → 0 ≤ n32 (i + c) ∧ n32 (i + c) < X.1) (hn : 0 ≤ n ∧ n ≤ 600) (hJ : zJ E p q n) : ∃ t' p' q' F k5 k6, zf_ev X (d + 21) 318 (628, [vX 1000, vR 0, vR 60, vR 77, vI i, j5, j6], [], zH t p q E) = zf_ev X (d + 21) 318 (23, [vX 1000, vR 0, vR 60, vR 77, vI (i + 6), k5, k6], [], zH t' p' q' F) ∧ zJ F p' q' (n + 1) ∧ (t' = t ∨ t' = t ++ [(30, 6)]) := by
  obtain ⟨V, U, T, y, im, h⟩ := hJ
  obtain ⟨v, F, H, f1, y1, hj⟩ := C126 (X := X) (d := d) (t := t) h  
  refine ⟨t, p, q, H, j5, j6, ?_, hj, Or.inl rfl⟩
  rw [e318_628, e318_629 rfl (Nat.le_of_ble_eq_true rfl), f1, zk1 (npc := 632) rfl, e318_632, e318_633 rfl (Nat.le_of_ble_eq_true rfl), y1, zk1 (npc := 636) rfl, e318_636, if_pos rfl, e318_1941 rfl, e318_1944]
theorem K13 (hX : ∀ j, -2147483648 ≤ X.2 j ∧ X.2 j < 2147483648) (hx : ∀ c, 0 ≤ c → c ≤ 5 → 0 ≤ n32 (i + c) ∧ n32 (i + c) < X.1) (hn : 0 ≤ n ∧ n ≤ 600) (hJ : zJ E p q n) : ∃ t' p' q' F k5 k6, zf_ev X (d + 21) 318 (641, [vX 1000, vR 0, vR 60, vR 77, vI i, j5, j6], [], zH t p q E) = zf_ev X (d + 21) 318 (23, [vX 1000, vR 0, vR 60, vR 77, vI (i + 6), k5, k6], [], zH t' p' q' F) ∧ zJ F p' q' (n + 1) ∧ (t' = t ∨ t' = t ++ [(30, 6)]) := by
  obtain ⟨V, U, T, y, im, h⟩ := hJ
  obtain ⟨v, F, H, f1, y1, hj⟩ := C127 (X := X) (d := d) (t := t) h  
  refine ⟨t, p, q, H, j5, j6, ?_, hj, Or.inl rfl⟩
  rw [e318_641, e318_642 rfl (Nat.le_of_ble_eq_true rfl), f1, zk1 (npc := 645) rfl, e318_645, e318_646 rfl (Nat.le_of_ble_eq_true rfl), y1, zk1 (npc := 649) rfl, e318_649, if_pos rfl, e318_1941 rfl, e318_1944]
theorem K14 (hX : ∀ j, -2147483648 ≤ X.2 j ∧ X.2 j < 2147483648) (hx : ∀ c, 0 ≤ c → c ≤ 5 → 0 ≤ n32 (i + c) ∧ n32 (i + c) < X.1) (hn : 0 ≤ n ∧ n ≤ 600) (hJ : zJ E p q n) : ∃ t' p' q' F k5 k6, zf_ev X (d + 21) 318 (654, [vX 1000, vR 0, vR 60, vR 77, vI i, j5, j6], [], zH t p q E) = zf_ev X (d + 21) 318 (23, [vX 1000, vR 0, vR 60, vR 77, vI (i + 6), k5, k6], [], zH t' p' q' F) ∧ zJ F p' q' (n + 1) ∧ (t' = t ∨ t' = t ++ [(30, 6)]) := by
  obtain ⟨V, U, T, y, im, h⟩ := hJ
  obtain ⟨v, F, H, f1, y1, hj⟩ := C128 (X := X) (d := d) (t := t) h  
  refine ⟨t, p, q, H, j5, j6, ?_, hj, Or.inl rfl⟩
  rw [e318_654, e318_655 rfl (Nat.le_of_ble_eq_true rfl), f1, zk1 (npc := 658) rfl, e318_658, e318_659 rfl (Nat.le_of_ble_eq_true rfl), y1, zk1 (npc := 662) rfl, e318_662, if_pos rfl, e318_1941 rfl, e318_1944]
theorem K15 (hX : ∀ j, -2147483648 ≤ X.2 j ∧ X.2 j < 2147483648) (hx : ∀ c, 0 ≤ c → c ≤ 5 → 0 ≤ n32 (i + c) ∧ n32 (i + c) < X.1) (hn : 0 ≤ n ∧ n ≤ 600) (hJ : zJ E p q n) : ∃ t' p' q' F k5 k6, zf_ev X (d + 21) 318 (667, [vX 1000, vR 0, vR 60, vR 77, vI i, j5, j6], [], zH t p q E) = zf_ev X (d + 21) 318 (23, [vX 1000, vR 0, vR 60, vR 77, vI (i + 6), k5, k6], [], zH t' p' q' F) ∧ zJ F p' q' (n + 1) ∧ (t' = t ∨ t' = t ++ [(30, 6)]) := by
  by_cases hb : n32 (X.2 (n32 (i + 3)).toNat) = 0
  · obtain ⟨V, U, T, y, im, h⟩ := hJ
    obtain ⟨v, F, H, f1, y1, hj⟩ := C129 (X := X) (d := d) (t := t) h (m := (X.2 (n32 (i + 1)).toNat)) (s := (X.2 (n32 (i + 2)).toNat)) (l := 0) (hX _) (hX _) (by decide)
    refine ⟨t, p, q, H, j5, j6, ?_, hj, Or.inl rfl⟩
    rw [e318_667, e318_668, e318_669, e318_671, e318_672, e318_673 (hx 1 (by decide) (by decide)).1 (hx 1 (by decide) (by decide)).2, e318_674, e318_675, e318_677, e318_678, e318_679 (hx 2 (by decide) (by decide)).1 (hx 2 (by decide) (by decide)).2, e318_680, e318_681, e318_683, e318_684, e318_685 (hx 3 (by decide) (by decide)).1 (hx 3 (by decide) (by decide)).2, e318_686, if_pos hb, e318_693, e318_694 rfl (Nat.le_of_ble_eq_true rfl), f1, zk1 (npc := 697) rfl, e318_697, e318_698, e318_699, e318_701, e318_702, e318_703 (hx 1 (by decide) (by decide)).1 (hx 1 (by decide) (by decide)).2, e318_704, e318_705, e318_707, e318_708, e318_709 (hx 2 (by decide) (by decide)).1 (hx 2 (by decide) (by decide)).2, e318_710, e318_711, e318_713, e318_714, e318_715 (hx 3 (by decide) (by decide)).1 (hx 3 (by decide) (by decide)).2, e318_716, if_pos hb, e318_723, e318_724 rfl (Nat.le_of_ble_eq_true rfl), y1, zk1 (npc := 727) rfl, e318_727, zm_lcmp_self, e318_728, if_pos (by decide), e318_1941 rfl, e318_1944]
  · obtain ⟨V, U, T, y, im, h⟩ := hJ
    obtain ⟨v, F, H, f1, y1, hj⟩ := C129 (X := X) (d := d) (t := t) h (m := (X.2 (n32 (i + 1)).toNat)) (s := (X.2 (n32 (i + 2)).toNat)) (l := 1) (hX _) (hX _) (by decide)
    refine ⟨t, p, q, H, j5, j6, ?_, hj, Or.inl rfl⟩
    rw [e318_667, e318_668, e318_669, e318_671, e318_672, e318_673 (hx 1 (by decide) (by decide)).1 (hx 1 (by decide) (by decide)).2, e318_674, e318_675, e318_677, e318_678, e318_679 (hx 2 (by decide) (by decide)).1 (hx 2 (by decide) (by decide)).2, e318_680, e318_681, e318_683, e318_684, e318_685 (hx 3 (by decide) (by decide)).1 (hx 3 (by decide) (by decide)).2, e318_686, if_neg hb, e318_689, e318_690, e318_694 rfl (Nat.le_of_ble_eq_true rfl), f1, zk1 (npc := 697) rfl, e318_697, e318_698, e318_699, e318_701, e318_702, e318_703 (hx 1 (by decide) (by decide)).1 (hx 1 (by decide) (by decide)).2, e318_704, e318_705, e318_707, e318_708, e318_709 (hx 2 (by decide) (by decide)).1 (hx 2 (by decide) (by decide)).2, e318_710, e318_711, e318_713, e318_714, e318_715 (hx 3 (by decide) (by decide)).1 (hx 3 (by decide) (by decide)).2, e318_716, if_neg hb, e318_719, e318_720, e318_724 rfl (Nat.le_of_ble_eq_true rfl), y1, zk1 (npc := 727) rfl, e318_727, zm_lcmp_self, e318_728, if_pos (by decide), e318_1941 rfl, e318_1944]
theorem K16 (hX : ∀ j, -2147483648 ≤ X.2 j ∧ X.2 j < 2147483648) (hx : ∀ c, 0 ≤ c → c ≤ 5 → 0 ≤ n32 (i + c) ∧ n32 (i + c) < X.1) (hn : 0 ≤ n ∧ n ≤ 600) (hJ : zJ E p q n) : ∃ t' p' q' F k5 k6, zf_ev X (d + 21) 318 (733, [vX 1000, vR 0, vR 60, vR 77, vI i, j5, j6], [], zH t p q E) = zf_ev X (d + 21) 318 (23, [vX 1000, vR 0, vR 60, vR 77, vI (i + 6), k5, k6], [], zH t' p' q' F) ∧ zJ F p' q' (n + 1) ∧ (t' = t ∨ t' = t ++ [(30, 6)]) := by
  by_cases hb : n32 (X.2 (n32 (i + 2)).toNat) = 0
  · obtain ⟨V, U, T, y, im, h⟩ := hJ
    obtain ⟨v, F, H, f1, y1, hj⟩ := C130 (X := X) (d := d) (t := t) h (s := (X.2 (n32 (i + 1)).toNat)) (l := 0) (hX _) (by decide)
    refine ⟨t, p, q, H, j5, j6, ?_, hj, Or.inl rfl⟩
    rw [e318_733, e318_734, e318_735, e318_737, e318_738, e318_739 (hx 1 (by decide) (by decide)).1 (hx 1 (by decide) (by decide)).2, e318_740, e318_741, e318_743, e318_744, e318_745 (hx 2 (by decide) (by decide)).1 (hx 2 (by decide) (by decide)).2, e318_746, if_pos hb, e318_753, e318_754 rfl (Nat.le_of_ble_eq_true rfl), f1, zk1 (npc := 757) rfl, e318_757, e318_758, e318_759, e318_761, e318_762, e318_763 (hx 1 (by decide) (by decide)).1 (hx 1 (by decide) (by decide)).2, e318_764, e318_765, e318_767, e318_768, e318_769 (hx 2 (by decide) (by decide)).1 (hx 2 (by decide) (by decide)).2, e318_770, if_pos hb, e318_777, e318_778 rfl (Nat.le_of_ble_eq_true rfl), y1, zk1 (npc := 781) rfl, e318_781, zm_lcmp_self, e318_782, if_pos (by decide), e318_1941 rfl, e318_1944]
  · obtain ⟨V, U, T, y, im, h⟩ := hJ
    obtain ⟨v, F, H, f1, y1, hj⟩ := C130 (X := X) (d := d) (t := t) h (s := (X.2 (n32 (i + 1)).toNat)) (l := 1) (hX _) (by decide)
    refine ⟨t, p, q, H, j5, j6, ?_, hj, Or.inl rfl⟩
    rw [e318_733, e318_734, e318_735, e318_737, e318_738, e318_739 (hx 1 (by decide) (by decide)).1 (hx 1 (by decide) (by decide)).2, e318_740, e318_741, e318_743, e318_744, e318_745 (hx 2 (by decide) (by decide)).1 (hx 2 (by decide) (by decide)).2, e318_746, if_neg hb, e318_749, e318_750, e318_754 rfl (Nat.le_of_ble_eq_true rfl), f1, zk1 (npc := 757) rfl, e318_757, e318_758, e318_759, e318_761, e318_762, e318_763 (hx 1 (by decide) (by decide)).1 (hx 1 (by decide) (by decide)).2, e318_764, e318_765, e318_767, e318_768, e318_769 (hx 2 (by decide) (by decide)).1 (hx 2 (by decide) (by decide)).2, e318_770, if_neg hb, e318_773, e318_774, e318_778 rfl (Nat.le_of_ble_eq_true rfl), y1, zk1 (npc := 781) rfl, e318_781, zm_lcmp_self, e318_782, if_pos (by decide), e318_1941 rfl, e318_1944]
theorem K17 (hX : ∀ j, -2147483648 ≤ X.2 j ∧ X.2 j < 2147483648) (hx : ∀ c, 0 ≤ c → c ≤ 5 → 0 ≤ n32 (i + c) ∧ n32 (i + c) < X.1) (hn : 0 ≤ n ∧ n ≤ 600) (hJ : zJ E p q n) : ∃ t' p' q' F k5 k6, zf_ev X (d + 21) 318 (787, [vX 1000, vR 0, vR 60, vR 77, vI i, j5, j6], [], zH t p q E) = zf_ev X (d + 21) 318 (23, [vX 1000, vR 0, vR 60, vR 77, vI (i + 6), k5, k6], [], zH t' p' q' F) ∧ zJ F p' q' (n + 1) ∧ (t' = t ∨ t' = t ++ [(30, 6)]) := by
  by_cases hb : n32 (X.2 (n32 (i + 3)).toNat) = 0
  · obtain ⟨V, U, T, y, im, h⟩ := hJ
    obtain ⟨v, F, H, f1, y1, hj⟩ := C131 (X := X) (d := d) (t := t) h (s := (X.2 (n32 (i + 1)).toNat)) (many := (X.2 (n32 (i + 2)).toNat)) (l := 0) (hX _) (hX _) (by decide)
    refine ⟨t, p, q, H, j5, j6, ?_, hj, Or.inl rfl⟩
    rw [e318_787, e318_788, e318_789, e318_791, e318_792, e318_793 (hx 1 (by decide) (by decide)).1 (hx 1 (by decide) (by decide)).2, e318_794, e318_795, e318_797, e318_798, e318_799 (hx 2 (by decide) (by decide)).1 (hx 2 (by decide) (by decide)).2, e318_800, e318_801, e318_803, e318_804, e318_805 (hx 3 (by decide) (by decide)).1 (hx 3 (by decide) (by decide)).2, e318_806, if_pos hb, e318_813, e318_814 rfl (Nat.le_of_ble_eq_true rfl), f1, zk1 (npc := 817) rfl, e318_817, e318_818, e318_819, e318_821, e318_822, e318_823 (hx 1 (by decide) (by decide)).1 (hx 1 (by decide) (by decide)).2, e318_824, e318_825, e318_827, e318_828, e318_829 (hx 2 (by decide) (by decide)).1 (hx 2 (by decide) (by decide)).2, e318_830, e318_831, e318_833, e318_834, e318_835 (hx 3 (by decide) (by decide)).1 (hx 3 (by decide) (by decide)).2, e318_836, if_pos hb, e318_843, e318_844 rfl (Nat.le_of_ble_eq_true rfl), y1, zk1 (npc := 847) rfl, e318_847, zm_lcmp_self, e318_848, if_pos (by decide), e318_1941 rfl, e318_1944]
  · obtain ⟨V, U, T, y, im, h⟩ := hJ
    obtain ⟨v, F, H, f1, y1, hj⟩ := C131 (X := X) (d := d) (t := t) h (s := (X.2 (n32 (i + 1)).toNat)) (many := (X.2 (n32 (i + 2)).toNat)) (l := 1) (hX _) (hX _) (by decide)
    refine ⟨t, p, q, H, j5, j6, ?_, hj, Or.inl rfl⟩
    rw [e318_787, e318_788, e318_789, e318_791, e318_792, e318_793 (hx 1 (by decide) (by decide)).1 (hx 1 (by decide) (by decide)).2, e318_794, e318_795, e318_797, e318_798, e318_799 (hx 2 (by decide) (by decide)).1 (hx 2 (by decide) (by decide)).2, e318_800, e318_801, e318_803, e318_804, e318_805 (hx 3 (by decide) (by decide)).1 (hx 3 (by decide) (by decide)).2, e318_806, if_neg hb, e318_809, e318_810, e318_814 rfl (Nat.le_of_ble_eq_true rfl), f1, zk1 (npc := 817) rfl, e318_817, e318_818, e318_819, e318_821, e318_822, e318_823 (hx 1 (by decide) (by decide)).1 (hx 1 (by decide) (by decide)).2, e318_824, e318_825, e318_827, e318_828, e318_829 (hx 2 (by decide) (by decide)).1 (hx 2 (by decide) (by decide)).2, e318_830, e318_831, e318_833, e318_834, e318_835 (hx 3 (by decide) (by decide)).1 (hx 3 (by decide) (by decide)).2, e318_836, if_neg hb, e318_839, e318_840, e318_844 rfl (Nat.le_of_ble_eq_true rfl), y1, zk1 (npc := 847) rfl, e318_847, zm_lcmp_self, e318_848, if_pos (by decide), e318_1941 rfl, e318_1944]
theorem K18 (hX : ∀ j, -2147483648 ≤ X.2 j ∧ X.2 j < 2147483648) (hx : ∀ c, 0 ≤ c → c ≤ 5 → 0 ≤ n32 (i + c) ∧ n32 (i + c) < X.1) (hn : 0 ≤ n ∧ n ≤ 600) (hJ : zJ E p q n) : ∃ t' p' q' F k5 k6, zf_ev X (d + 21) 318 (853, [vX 1000, vR 0, vR 60, vR 77, vI i, j5, j6], [], zH t p q E) = zf_ev X (d + 21) 318 (23, [vX 1000, vR 0, vR 60, vR 77, vI (i + 6), k5, k6], [], zH t' p' q' F) ∧ zJ F p' q' (n + 1) ∧ (t' = t ∨ t' = t ++ [(30, 6)]) := by
  by_cases hb : n32 (X.2 (n32 (i + 2)).toNat) = 0
  · obtain ⟨V, U, T, y, im, h⟩ := hJ
    obtain ⟨v, F, H, f1, y1, hj⟩ := C132 (X := X) (d := d) (t := t) h (s := (X.2 (n32 (i + 1)).toNat)) (l := 0) (hX _) (by decide)
    refine ⟨t, p, q, H, j5, j6, ?_, hj, Or.inl rfl⟩
    rw [e318_853, e318_854, e318_855, e318_857, e318_858, e318_859 (hx 1 (by decide) (by decide)).1 (hx 1 (by decide) (by decide)).2, e318_860, e318_861, e318_863, e318_864, e318_865 (hx 2 (by decide) (by decide)).1 (hx 2 (by decide) (by decide)).2, e318_866, if_pos hb, e318_873, e318_874 rfl (Nat.le_of_ble_eq_true rfl), f1, zk1 (npc := 877) rfl, e318_877, e318_878, e318_879, e318_881, e318_882, e318_883 (hx 1 (by decide) (by decide)).1 (hx 1 (by decide) (by decide)).2, e318_884, e318_885, e318_887, e318_888, e318_889 (hx 2 (by decide) (by decide)).1 (hx 2 (by decide) (by decide)).2, e318_890, if_pos hb, e318_897, e318_898 rfl (Nat.le_of_ble_eq_true rfl), y1, zk1 (npc := 901) rfl, e318_901, zm_lcmp_self, e318_902, if_pos (by decide), e318_1941 rfl, e318_1944]
  · obtain ⟨V, U, T, y, im, h⟩ := hJ
    obtain ⟨v, F, H, f1, y1, hj⟩ := C132 (X := X) (d := d) (t := t) h (s := (X.2 (n32 (i + 1)).toNat)) (l := 1) (hX _) (by decide)
    refine ⟨t, p, q, H, j5, j6, ?_, hj, Or.inl rfl⟩
    rw [e318_853, e318_854, e318_855, e318_857, e318_858, e318_859 (hx 1 (by decide) (by decide)).1 (hx 1 (by decide) (by decide)).2, e318_860, e318_861, e318_863, e318_864, e318_865 (hx 2 (by decide) (by decide)).1 (hx 2 (by decide) (by decide)).2, e318_866, if_neg hb, e318_869, e318_870, e318_874 rfl (Nat.le_of_ble_eq_true rfl), f1, zk1 (npc := 877) rfl, e318_877, e318_878, e318_879, e318_881, e318_882, e318_883 (hx 1 (by decide) (by decide)).1 (hx 1 (by decide) (by decide)).2, e318_884, e318_885, e318_887, e318_888, e318_889 (hx 2 (by decide) (by decide)).1 (hx 2 (by decide) (by decide)).2, e318_890, if_neg hb, e318_893, e318_894, e318_898 rfl (Nat.le_of_ble_eq_true rfl), y1, zk1 (npc := 901) rfl, e318_901, zm_lcmp_self, e318_902, if_pos (by decide), e318_1941 rfl, e318_1944]
theorem K19 (hX : ∀ j, -2147483648 ≤ X.2 j ∧ X.2 j < 2147483648) (hx : ∀ c, 0 ≤ c → c ≤ 5 → 0 ≤ n32 (i + c) ∧ n32 (i + c) < X.1) (hn : 0 ≤ n ∧ n ≤ 600) (hJ : zJ E p q n) : ∃ t' p' q' F k5 k6, zf_ev X (d + 21) 318 (907, [vX 1000, vR 0, vR 60, vR 77, vI i, j5, j6], [], zH t p q E) = zf_ev X (d + 21) 318 (23, [vX 1000, vR 0, vR 60, vR 77, vI (i + 6), k5, k6], [], zH t' p' q' F) ∧ zJ F p' q' (n + 1) ∧ (t' = t ∨ t' = t ++ [(30, 6)]) := by
  obtain ⟨V, U, T, y, im, h⟩ := hJ
  obtain ⟨v, F, H, f1, y1, hj⟩ := C133 (X := X) (d := d) (t := t) h  
  refine ⟨t, p, q, H, j5, j6, ?_, hj, Or.inl rfl⟩
  rw [e318_907, e318_908 rfl (Nat.le_of_ble_eq_true rfl), f1, zk1 (npc := 911) rfl, e318_911, e318_912 rfl (Nat.le_of_ble_eq_true rfl), y1, zk1 (npc := 915) rfl, e318_915, if_pos rfl, e318_1941 rfl, e318_1944]
theorem K20 (hX : ∀ j, -2147483648 ≤ X.2 j ∧ X.2 j < 2147483648) (hx : ∀ c, 0 ≤ c → c ≤ 5 → 0 ≤ n32 (i + c) ∧ n32 (i + c) < X.1) (hn : 0 ≤ n ∧ n ≤ 600) (hJ : zJ E p q n) : ∃ t' p' q' F k5 k6, zf_ev X (d + 21) 318 (920, [vX 1000, vR 0, vR 60, vR 77, vI i, j5, j6], [], zH t p q E) = zf_ev X (d + 21) 318 (23, [vX 1000, vR 0, vR 60, vR 77, vI (i + 6), k5, k6], [], zH t' p' q' F) ∧ zJ F p' q' (n + 1) ∧ (t' = t ∨ t' = t ++ [(30, 6)]) := by
  obtain ⟨V, U, T, y, im, h⟩ := hJ
  obtain ⟨v, F, H, f1, y1, hj⟩ := C134 (X := X) (d := d) (t := t) h (m := (X.2 (n32 (i + 1)).toNat)) (s := (X.2 (n32 (i + 2)).toNat)) (hX _) (hX _)
  refine ⟨t, p, q, H, j5, j6, ?_, hj, Or.inl rfl⟩
  rw [e318_920, e318_921, e318_922, e318_924, e318_925, e318_926 (hx 1 (by decide) (by decide)).1 (hx 1 (by decide) (by decide)).2, e318_927, e318_928, e318_930, e318_931, e318_932 (hx 2 (by decide) (by decide)).1 (hx 2 (by decide) (by decide)).2, e318_933 rfl (Nat.le_of_ble_eq_true rfl), f1, zk1 (npc := 936) rfl, e318_936, e318_937, e318_938, e318_940, e318_941, e318_942 (hx 1 (by decide) (by decide)).1 (hx 1 (by decide) (by decide)).2, e318_943, e318_944, e318_946, e318_947, e318_948 (hx 2 (by decide) (by decide)).1 (hx 2 (by decide) (by decide)).2, e318_949 rfl (Nat.le_of_ble_eq_true rfl), y1, zk1 (npc := 952) rfl, e318_952, if_pos rfl, e318_1941 rfl, e318_1944]
theorem K21 (hX : ∀ j, -2147483648 ≤ X.2 j ∧ X.2 j < 2147483648) (hx : ∀ c, 0 ≤ c → c ≤ 5 → 0 ≤ n32 (i + c) ∧ n32 (i + c) < X.1) (hn : 0 ≤ n ∧ n ≤ 600) (hJ : zJ E p q n) : ∃ t' p' q' F k5 k6, zf_ev X (d + 21) 318 (957, [vX 1000, vR 0, vR 60, vR 77, vI i, j5, j6], [], zH t p q E) = zf_ev X (d + 21) 318 (23, [vX 1000, vR 0, vR 60, vR 77, vI (i + 6), k5, k6], [], zH t' p' q' F) ∧ zJ F p' q' (n + 1) ∧ (t' = t ∨ t' = t ++ [(30, 6)]) := by
  by_cases hb : n32 (X.2 (n32 (i + 3)).toNat) = 0
  · obtain ⟨V, U, T, y, im, h⟩ := hJ
    obtain ⟨v, F, H, f1, y1, hj⟩ := C135 (X := X) (d := d) (t := t) h (m := (X.2 (n32 (i + 1)).toNat)) (s := (X.2 (n32 (i + 2)).toNat)) (l := 0) (hX _) (hX _) (by decide)
    refine ⟨t, p, q, H, j5, j6, ?_, hj, Or.inl rfl⟩
    rw [e318_957, e318_958, e318_959, e318_961, e318_962, e318_963 (hx 1 (by decide) (by decide)).1 (hx 1 (by decide) (by decide)).2, e318_964, e318_965, e318_967, e318_968, e318_969 (hx 2 (by decide) (by decide)).1 (hx 2 (by decide) (by decide)).2, e318_970, e318_971, e318_973, e318_974, e318_975 (hx 3 (by decide) (by decide)).1 (hx 3 (by decide) (by decide)).2, e318_976, if_pos hb, e318_983, e318_984 rfl (Nat.le_of_ble_eq_true rfl), f1, zk1 (npc := 987) rfl, e318_987, e318_988, e318_989, e318_991, e318_992, e318_993 (hx 1 (by decide) (by decide)).1 (hx 1 (by decide) (by decide)).2, e318_994, e318_995, e318_997, e318_998, e318_999 (hx 2 (by decide) (by decide)).1 (hx 2 (by decide) (by decide)).2, e318_1000, e318_1001, e318_1003, e318_1004, e318_1005 (hx 3 (by decide) (by decide)).1 (hx 3 (by decide) (by decide)).2, e318_1006, if_pos hb, e318_1013, e318_1014 rfl (Nat.le_of_ble_eq_true rfl), y1, zk1 (npc := 1017) rfl, e318_1017, zm_lcmp_self, e318_1018, if_pos (by decide), e318_1941 rfl, e318_1944]
  · obtain ⟨V, U, T, y, im, h⟩ := hJ
    obtain ⟨v, F, H, f1, y1, hj⟩ := C135 (X := X) (d := d) (t := t) h (m := (X.2 (n32 (i + 1)).toNat)) (s := (X.2 (n32 (i + 2)).toNat)) (l := 1) (hX _) (hX _) (by decide)
    refine ⟨t, p, q, H, j5, j6, ?_, hj, Or.inl rfl⟩
    rw [e318_957, e318_958, e318_959, e318_961, e318_962, e318_963 (hx 1 (by decide) (by decide)).1 (hx 1 (by decide) (by decide)).2, e318_964, e318_965, e318_967, e318_968, e318_969 (hx 2 (by decide) (by decide)).1 (hx 2 (by decide) (by decide)).2, e318_970, e318_971, e318_973, e318_974, e318_975 (hx 3 (by decide) (by decide)).1 (hx 3 (by decide) (by decide)).2, e318_976, if_neg hb, e318_979, e318_980, e318_984 rfl (Nat.le_of_ble_eq_true rfl), f1, zk1 (npc := 987) rfl, e318_987, e318_988, e318_989, e318_991, e318_992, e318_993 (hx 1 (by decide) (by decide)).1 (hx 1 (by decide) (by decide)).2, e318_994, e318_995, e318_997, e318_998, e318_999 (hx 2 (by decide) (by decide)).1 (hx 2 (by decide) (by decide)).2, e318_1000, e318_1001, e318_1003, e318_1004, e318_1005 (hx 3 (by decide) (by decide)).1 (hx 3 (by decide) (by decide)).2, e318_1006, if_neg hb, e318_1009, e318_1010, e318_1014 rfl (Nat.le_of_ble_eq_true rfl), y1, zk1 (npc := 1017) rfl, e318_1017, zm_lcmp_self, e318_1018, if_pos (by decide), e318_1941 rfl, e318_1944]
theorem K22 (hX : ∀ j, -2147483648 ≤ X.2 j ∧ X.2 j < 2147483648) (hx : ∀ c, 0 ≤ c → c ≤ 5 → 0 ≤ n32 (i + c) ∧ n32 (i + c) < X.1) (hn : 0 ≤ n ∧ n ≤ 600) (hJ : zJ E p q n) : ∃ t' p' q' F k5 k6, zf_ev X (d + 21) 318 (1023, [vX 1000, vR 0, vR 60, vR 77, vI i, j5, j6], [], zH t p q E) = zf_ev X (d + 21) 318 (23, [vX 1000, vR 0, vR 60, vR 77, vI (i + 6), k5, k6], [], zH t' p' q' F) ∧ zJ F p' q' (n + 1) ∧ (t' = t ∨ t' = t ++ [(30, 6)]) := by
  obtain ⟨V, U, T, y, im, h⟩ := hJ
  obtain ⟨v, F, H, f1, y1, hj⟩ := C136 (X := X) (d := d) (t := t) h (m := (X.2 (n32 (i + 1)).toNat)) (s := (X.2 (n32 (i + 2)).toNat)) (hX _) (hX _)
  refine ⟨t, p, q, H, j5, j6, ?_, hj, Or.inl rfl⟩
  rw [e318_1023, e318_1024, e318_1025, e318_1027, e318_1028, e318_1029 (hx 1 (by decide) (by decide)).1 (hx 1 (by decide) (by decide)).2, e318_1030, e318_1031, e318_1033, e318_1034, e318_1035 (hx 2 (by decide) (by decide)).1 (hx 2 (by decide) (by decide)).2, e318_1036 rfl (Nat.le_of_ble_eq_true rfl), f1, zk1 (npc := 1039) rfl, e318_1039, e318_1040, e318_1041, e318_1043, e318_1044, e318_1045 (hx 1 (by decide) (by decide)).1 (hx 1 (by decide) (by decide)).2, e318_1046, e318_1047, e318_1049, e318_1050, e318_1051 (hx 2 (by decide) (by decide)).1 (hx 2 (by decide) (by decide)).2, e318_1052 rfl (Nat.le_of_ble_eq_true rfl), y1, zk1 (npc := 1055) rfl, e318_1055, if_pos rfl, e318_1941 rfl, e318_1944]
theorem K23 (hX : ∀ j, -2147483648 ≤ X.2 j ∧ X.2 j < 2147483648) (hx : ∀ c, 0 ≤ c → c ≤ 5 → 0 ≤ n32 (i + c) ∧ n32 (i + c) < X.1) (hn : 0 ≤ n ∧ n ≤ 600) (hJ : zJ E p q n) : ∃ t' p' q' F k5 k6, zf_ev X (d + 21) 318 (1060, [vX 1000, vR 0, vR 60, vR 77, vI i, j5, j6], [], zH t p q E) = zf_ev X (d + 21) 318 (23, [vX 1000, vR 0, vR 60, vR 77, vI (i + 6), k5, k6], [], zH t' p' q' F) ∧ zJ F p' q' (n + 1) ∧ (t' = t ∨ t' = t ++ [(30, 6)]) := by
  obtain ⟨V, U, T, y, im, h⟩ := hJ
  obtain ⟨v, F, H, f1, y1, hj⟩ := C137 (X := X) (d := d) (t := t) h (s := (X.2 (n32 (i + 1)).toNat)) (hX _)
  refine ⟨t, p, q, H, j5, j6, ?_, hj, Or.inl rfl⟩
  rw [e318_1060, e318_1061, e318_1062, e318_1064, e318_1065, e318_1066 (hx 1 (by decide) (by decide)).1 (hx 1 (by decide) (by decide)).2, e318_1067 rfl (Nat.le_of_ble_eq_true rfl), f1, zk1 (npc := 1070) rfl, e318_1070, e318_1071, e318_1072, e318_1074, e318_1075, e318_1076 (hx 1 (by decide) (by decide)).1 (hx 1 (by decide) (by decide)).2, e318_1077 rfl (Nat.le_of_ble_eq_true rfl), y1, zk1 (npc := 1080) rfl, e318_1080, if_pos rfl, e318_1941 rfl, e318_1944]
theorem K24 (hX : ∀ j, -2147483648 ≤ X.2 j ∧ X.2 j < 2147483648) (hx : ∀ c, 0 ≤ c → c ≤ 5 → 0 ≤ n32 (i + c) ∧ n32 (i + c) < X.1) (hn : 0 ≤ n ∧ n ≤ 600) (hJ : zJ E p q n) : ∃ t' p' q' F k5 k6, zf_ev X (d + 21) 318 (1085, [vX 1000, vR 0, vR 60, vR 77, vI i, j5, j6], [], zH t p q E) = zf_ev X (d + 21) 318 (23, [vX 1000, vR 0, vR 60, vR 77, vI (i + 6), k5, k6], [], zH t' p' q' F) ∧ zJ F p' q' (n + 1) ∧ (t' = t ∨ t' = t ++ [(30, 6)]) := by
  obtain ⟨V, U, T, y, im, h⟩ := hJ
  obtain ⟨v, F, H, f1, y1, hj⟩ := C138 (X := X) (d := d) (t := t) h (s := (X.2 (n32 (i + 1)).toNat)) (hX _)
  refine ⟨t, p, q, H, j5, j6, ?_, hj, Or.inl rfl⟩
  rw [e318_1085, e318_1086, e318_1087, e318_1089, e318_1090, e318_1091 (hx 1 (by decide) (by decide)).1 (hx 1 (by decide) (by decide)).2, e318_1092 rfl (Nat.le_of_ble_eq_true rfl), f1, zk1 (npc := 1095) rfl, e318_1095, e318_1096, e318_1097, e318_1099, e318_1100, e318_1101 (hx 1 (by decide) (by decide)).1 (hx 1 (by decide) (by decide)).2, e318_1102 rfl (Nat.le_of_ble_eq_true rfl), y1, zk1 (npc := 1105) rfl, e318_1105, if_pos rfl, e318_1941 rfl, e318_1944]
theorem K25 (hX : ∀ j, -2147483648 ≤ X.2 j ∧ X.2 j < 2147483648) (hx : ∀ c, 0 ≤ c → c ≤ 5 → 0 ≤ n32 (i + c) ∧ n32 (i + c) < X.1) (hn : 0 ≤ n ∧ n ≤ 600) (hJ : zJ E p q n) : ∃ t' p' q' F k5 k6, zf_ev X (d + 21) 318 (1110, [vX 1000, vR 0, vR 60, vR 77, vI i, j5, j6], [], zH t p q E) = zf_ev X (d + 21) 318 (23, [vX 1000, vR 0, vR 60, vR 77, vI (i + 6), k5, k6], [], zH t' p' q' F) ∧ zJ F p' q' (n + 1) ∧ (t' = t ∨ t' = t ++ [(30, 6)]) := by
  by_cases hb : n32 (X.2 (n32 (i + 5)).toNat) = 0
  · obtain ⟨V, U, T, y, im, h⟩ := hJ
    obtain ⟨v, F, H, f1, y1, hj⟩ := C139 (X := X) (d := d) (t := t) h (s := (X.2 (n32 (i + 1)).toNat)) (c := (X.2 (n32 (i + 2)).toNat)) (x := (X.2 (n32 (i + 3)).toNat)) (e := (X.2 (n32 (i + 4)).toNat)) (l := 0) (hX _) (hX _) (hX _) (hX _) (by decide)
    refine ⟨t, p, q, H, j5, j6, ?_, hj, Or.inl rfl⟩
    rw [e318_1110, e318_1111, e318_1112, e318_1114, e318_1115, e318_1116 (hx 1 (by decide) (by decide)).1 (hx 1 (by decide) (by decide)).2, e318_1117, e318_1118, e318_1120, e318_1121, e318_1122 (hx 2 (by decide) (by decide)).1 (hx 2 (by decide) (by decide)).2, e318_1123, e318_1124, e318_1126, e318_1127, e318_1128 (hx 3 (by decide) (by decide)).1 (hx 3 (by decide) (by decide)).2, e318_1129, e318_1130, e318_1132, e318_1133, e318_1134 (hx 4 (by decide) (by decide)).1 (hx 4 (by decide) (by decide)).2, e318_1135, e318_1136, e318_1138, e318_1139, e318_1140 (hx 5 (by decide) (by decide)).1 (hx 5 (by decide) (by decide)).2, e318_1141, if_pos hb, e318_1148, e318_1149 rfl (Nat.le_of_ble_eq_true rfl), f1, zk1 (npc := 1152) rfl, e318_1152, e318_1153, e318_1154, e318_1156, e318_1157, e318_1158 (hx 1 (by decide) (by decide)).1 (hx 1 (by decide) (by decide)).2, e318_1159, e318_1160, e318_1162, e318_1163, e318_1164 (hx 2 (by decide) (by decide)).1 (hx 2 (by decide) (by decide)).2, e318_1165, e318_1166, e318_1168, e318_1169, e318_1170 (hx 3 (by decide) (by decide)).1 (hx 3 (by decide) (by decide)).2, e318_1171, e318_1172, e318_1174, e318_1175, e318_1176 (hx 4 (by decide) (by decide)).1 (hx 4 (by decide) (by decide)).2, e318_1177, e318_1178, e318_1180, e318_1181, e318_1182 (hx 5 (by decide) (by decide)).1 (hx 5 (by decide) (by decide)).2, e318_1183, if_pos hb, e318_1190, e318_1191 rfl (Nat.le_of_ble_eq_true rfl), y1, zk1 (npc := 1194) rfl, e318_1194, if_pos rfl, e318_1941 rfl, e318_1944]
  · obtain ⟨V, U, T, y, im, h⟩ := hJ
    obtain ⟨v, F, H, f1, y1, hj⟩ := C139 (X := X) (d := d) (t := t) h (s := (X.2 (n32 (i + 1)).toNat)) (c := (X.2 (n32 (i + 2)).toNat)) (x := (X.2 (n32 (i + 3)).toNat)) (e := (X.2 (n32 (i + 4)).toNat)) (l := 1) (hX _) (hX _) (hX _) (hX _) (by decide)
    refine ⟨t, p, q, H, j5, j6, ?_, hj, Or.inl rfl⟩
    rw [e318_1110, e318_1111, e318_1112, e318_1114, e318_1115, e318_1116 (hx 1 (by decide) (by decide)).1 (hx 1 (by decide) (by decide)).2, e318_1117, e318_1118, e318_1120, e318_1121, e318_1122 (hx 2 (by decide) (by decide)).1 (hx 2 (by decide) (by decide)).2, e318_1123, e318_1124, e318_1126, e318_1127, e318_1128 (hx 3 (by decide) (by decide)).1 (hx 3 (by decide) (by decide)).2, e318_1129, e318_1130, e318_1132, e318_1133, e318_1134 (hx 4 (by decide) (by decide)).1 (hx 4 (by decide) (by decide)).2, e318_1135, e318_1136, e318_1138, e318_1139, e318_1140 (hx 5 (by decide) (by decide)).1 (hx 5 (by decide) (by decide)).2, e318_1141, if_neg hb, e318_1144, e318_1145, e318_1149 rfl (Nat.le_of_ble_eq_true rfl), f1, zk1 (npc := 1152) rfl, e318_1152, e318_1153, e318_1154, e318_1156, e318_1157, e318_1158 (hx 1 (by decide) (by decide)).1 (hx 1 (by decide) (by decide)).2, e318_1159, e318_1160, e318_1162, e318_1163, e318_1164 (hx 2 (by decide) (by decide)).1 (hx 2 (by decide) (by decide)).2, e318_1165, e318_1166, e318_1168, e318_1169, e318_1170 (hx 3 (by decide) (by decide)).1 (hx 3 (by decide) (by decide)).2, e318_1171, e318_1172, e318_1174, e318_1175, e318_1176 (hx 4 (by decide) (by decide)).1 (hx 4 (by decide) (by decide)).2, e318_1177, e318_1178, e318_1180, e318_1181, e318_1182 (hx 5 (by decide) (by decide)).1 (hx 5 (by decide) (by decide)).2, e318_1183, if_neg hb, e318_1186, e318_1187, e318_1191 rfl (Nat.le_of_ble_eq_true rfl), y1, zk1 (npc := 1194) rfl, e318_1194, if_pos rfl, e318_1941 rfl, e318_1944]
theorem K26 (hX : ∀ j, -2147483648 ≤ X.2 j ∧ X.2 j < 2147483648) (hx : ∀ c, 0 ≤ c → c ≤ 5 → 0 ≤ n32 (i + c) ∧ n32 (i + c) < X.1) (hn : 0 ≤ n ∧ n ≤ 600) (hJ : zJ E p q n) : ∃ t' p' q' F k5 k6, zf_ev X (d + 21) 318 (1199, [vX 1000, vR 0, vR 60, vR 77, vI i, j5, j6], [], zH t p q E) = zf_ev X (d + 21) 318 (23, [vX 1000, vR 0, vR 60, vR 77, vI (i + 6), k5, k6], [], zH t' p' q' F) ∧ zJ F p' q' (n + 1) ∧ (t' = t ∨ t' = t ++ [(30, 6)]) := by
  obtain ⟨V, U, T, y, im, h⟩ := hJ
  obtain ⟨v, F, H, f1, y1, hj⟩ := C140 (X := X) (d := d) (t := t) h (s := (X.2 (n32 (i + 1)).toNat)) (x := (X.2 (n32 (i + 2)).toNat)) (hX _) (hX _)
  refine ⟨t, p, q, H, j5, j6, ?_, hj, Or.inl rfl⟩
  rw [e318_1199, e318_1200, e318_1201, e318_1203, e318_1204, e318_1205 (hx 1 (by decide) (by decide)).1 (hx 1 (by decide) (by decide)).2, e318_1206, e318_1207, e318_1209, e318_1210, e318_1211 (hx 2 (by decide) (by decide)).1 (hx 2 (by decide) (by decide)).2, e318_1212 rfl (Nat.le_of_ble_eq_true rfl), f1, zk1 (npc := 1215) rfl, e318_1215, e318_1216, e318_1217, e318_1219, e318_1220, e318_1221 (hx 1 (by decide) (by decide)).1 (hx 1 (by decide) (by decide)).2, e318_1222, e318_1223, e318_1225, e318_1226, e318_1227 (hx 2 (by decide) (by decide)).1 (hx 2 (by decide) (by decide)).2, e318_1228 rfl (Nat.le_of_ble_eq_true rfl), y1, zk1 (npc := 1231) rfl, e318_1231, if_pos rfl, e318_1941 rfl, e318_1944]
theorem K27 (hX : ∀ j, -2147483648 ≤ X.2 j ∧ X.2 j < 2147483648) (hx : ∀ c, 0 ≤ c → c ≤ 5 → 0 ≤ n32 (i + c) ∧ n32 (i + c) < X.1) (hn : 0 ≤ n ∧ n ≤ 600) (hJ : zJ E p q n) : ∃ t' p' q' F k5 k6, zf_ev X (d + 21) 318 (1236, [vX 1000, vR 0, vR 60, vR 77, vI i, j5, j6], [], zH t p q E) = zf_ev X (d + 21) 318 (23, [vX 1000, vR 0, vR 60, vR 77, vI (i + 6), k5, k6], [], zH t' p' q' F) ∧ zJ F p' q' (n + 1) ∧ (t' = t ∨ t' = t ++ [(30, 6)]) := by
  obtain ⟨V, U, T, y, im, h⟩ := hJ
  obtain ⟨v, F, H, f1, y1, hj⟩ := C141 (X := X) (d := d) (t := t) h (s := (X.2 (n32 (i + 1)).toNat)) (x := (X.2 (n32 (i + 2)).toNat)) (hX _) (hX _)
  refine ⟨t, p, q, H, j5, j6, ?_, hj, Or.inl rfl⟩
  rw [e318_1236, e318_1237, e318_1238, e318_1240, e318_1241, e318_1242 (hx 1 (by decide) (by decide)).1 (hx 1 (by decide) (by decide)).2, e318_1243, e318_1244, e318_1246, e318_1247, e318_1248 (hx 2 (by decide) (by decide)).1 (hx 2 (by decide) (by decide)).2, e318_1249 rfl (Nat.le_of_ble_eq_true rfl), f1, zk1 (npc := 1252) rfl, e318_1252, e318_1253, e318_1254, e318_1256, e318_1257, e318_1258 (hx 1 (by decide) (by decide)).1 (hx 1 (by decide) (by decide)).2, e318_1259, e318_1260, e318_1262, e318_1263, e318_1264 (hx 2 (by decide) (by decide)).1 (hx 2 (by decide) (by decide)).2, e318_1265 rfl (Nat.le_of_ble_eq_true rfl), y1, zk1 (npc := 1268) rfl, e318_1268, if_pos rfl, e318_1941 rfl, e318_1944]
theorem K28 (hX : ∀ j, -2147483648 ≤ X.2 j ∧ X.2 j < 2147483648) (hx : ∀ c, 0 ≤ c → c ≤ 5 → 0 ≤ n32 (i + c) ∧ n32 (i + c) < X.1) (hn : 0 ≤ n ∧ n ≤ 600) (hJ : zJ E p q n) : ∃ t' p' q' F k5 k6, zf_ev X (d + 21) 318 (1273, [vX 1000, vR 0, vR 60, vR 77, vI i, j5, j6], [], zH t p q E) = zf_ev X (d + 21) 318 (23, [vX 1000, vR 0, vR 60, vR 77, vI (i + 6), k5, k6], [], zH t' p' q' F) ∧ zJ F p' q' (n + 1) ∧ (t' = t ∨ t' = t ++ [(30, 6)]) := by
  obtain ⟨V, U, T, y, im, h⟩ := hJ
  obtain ⟨v, F, H, f1, y1, hj⟩ := C142 (X := X) (d := d) (t := t) h  
  refine ⟨t, p, q, H, j5, j6, ?_, hj, Or.inl rfl⟩
  rw [e318_1273, e318_1274 rfl (Nat.le_of_ble_eq_true rfl), f1, zk1 (npc := 1277) rfl, e318_1277, e318_1278 rfl (Nat.le_of_ble_eq_true rfl), y1, zk1 (npc := 1281) rfl, e318_1281, if_pos rfl, e318_1941 rfl, e318_1944]
theorem K29 (hX : ∀ j, -2147483648 ≤ X.2 j ∧ X.2 j < 2147483648) (hx : ∀ c, 0 ≤ c → c ≤ 5 → 0 ≤ n32 (i + c) ∧ n32 (i + c) < X.1) (hn : 0 ≤ n ∧ n ≤ 600) (hJ : zJ E p q n) : ∃ t' p' q' F k5 k6, zf_ev X (d + 21) 318 (1286, [vX 1000, vR 0, vR 60, vR 77, vI i, j5, j6], [], zH t p q E) = zf_ev X (d + 21) 318 (23, [vX 1000, vR 0, vR 60, vR 77, vI (i + 6), k5, k6], [], zH t' p' q' F) ∧ zJ F p' q' (n + 1) ∧ (t' = t ∨ t' = t ++ [(30, 6)]) := by
  obtain ⟨V, U, T, y, im, h⟩ := hJ
  obtain ⟨v, F, H, f1, y1, hj⟩ := C143 (X := X) (d := d) (t := t) h (r := (X.2 (n32 (i + 1)).toNat)) (hX _)
  refine ⟨t, p, q, H, j5, j6, ?_, hj, Or.inl rfl⟩
  rw [e318_1286, e318_1287, e318_1288, e318_1290, e318_1291, e318_1292 (hx 1 (by decide) (by decide)).1 (hx 1 (by decide) (by decide)).2, e318_1293 rfl (Nat.le_of_ble_eq_true rfl), f1, zk1 (npc := 1296) rfl, e318_1296, e318_1297, e318_1298, e318_1300, e318_1301, e318_1302 (hx 1 (by decide) (by decide)).1 (hx 1 (by decide) (by decide)).2, e318_1303 rfl (Nat.le_of_ble_eq_true rfl), y1, zk1 (npc := 1306) rfl, e318_1306, if_pos rfl, e318_1941 rfl, e318_1944]
theorem K30 (hX : ∀ j, -2147483648 ≤ X.2 j ∧ X.2 j < 2147483648) (hx : ∀ c, 0 ≤ c → c ≤ 5 → 0 ≤ n32 (i + c) ∧ n32 (i + c) < X.1) (hn : 0 ≤ n ∧ n ≤ 600) (hJ : zJ E p q n) : ∃ t' p' q' F k5 k6, zf_ev X (d + 21) 318 (1311, [vX 1000, vR 0, vR 60, vR 77, vI i, j5, j6], [], zH t p q E) = zf_ev X (d + 21) 318 (23, [vX 1000, vR 0, vR 60, vR 77, vI (i + 6), k5, k6], [], zH t' p' q' F) ∧ zJ F p' q' (n + 1) ∧ (t' = t ∨ t' = t ++ [(30, 6)]) := by
  obtain ⟨V, U, T, y, im, h⟩ := hJ
  obtain ⟨v, F, H, f1, y1, hj⟩ := C144 (X := X) (d := d) (t := t) h (r := (X.2 (n32 (i + 1)).toNat)) (hX _)
  refine ⟨t, p, q, H, j5, j6, ?_, hj, Or.inl rfl⟩
  rw [e318_1311, e318_1312, e318_1313, e318_1315, e318_1316, e318_1317 (hx 1 (by decide) (by decide)).1 (hx 1 (by decide) (by decide)).2, e318_1318 rfl (Nat.le_of_ble_eq_true rfl), f1, zk1 (npc := 1321) rfl, e318_1321, e318_1322, e318_1323, e318_1325, e318_1326, e318_1327 (hx 1 (by decide) (by decide)).1 (hx 1 (by decide) (by decide)).2, e318_1328 rfl (Nat.le_of_ble_eq_true rfl), y1, zk1 (npc := 1331) rfl, e318_1331, if_pos rfl, e318_1941 rfl, e318_1944]
theorem K31 (hX : ∀ j, -2147483648 ≤ X.2 j ∧ X.2 j < 2147483648) (hx : ∀ c, 0 ≤ c → c ≤ 5 → 0 ≤ n32 (i + c) ∧ n32 (i + c) < X.1) (hn : 0 ≤ n ∧ n ≤ 600) (hJ : zJ E p q n) : ∃ t' p' q' F k5 k6, zf_ev X (d + 21) 318 (1336, [vX 1000, vR 0, vR 60, vR 77, vI i, j5, j6], [], zH t p q E) = zf_ev X (d + 21) 318 (23, [vX 1000, vR 0, vR 60, vR 77, vI (i + 6), k5, k6], [], zH t' p' q' F) ∧ zJ F p' q' (n + 1) ∧ (t' = t ∨ t' = t ++ [(30, 6)]) := by
  obtain ⟨V, U, T, y, im, h⟩ := hJ
  obtain ⟨v, F, H, f1, y1, hj⟩ := C145 (X := X) (d := d) (t := t) h  
  refine ⟨t, p, q, H, j5, j6, ?_, hj, Or.inl rfl⟩
  rw [e318_1336, e318_1337 rfl (Nat.le_of_ble_eq_true rfl), f1, zk1 (npc := 1340) rfl, e318_1340, e318_1341 rfl (Nat.le_of_ble_eq_true rfl), y1, zk1 (npc := 1344) rfl, e318_1344, if_pos rfl, e318_1941 rfl, e318_1944]
theorem K32 (hX : ∀ j, -2147483648 ≤ X.2 j ∧ X.2 j < 2147483648) (hx : ∀ c, 0 ≤ c → c ≤ 5 → 0 ≤ n32 (i + c) ∧ n32 (i + c) < X.1) (hn : 0 ≤ n ∧ n ≤ 600) (hJ : zJ E p q n) : ∃ t' p' q' F k5 k6, zf_ev X (d + 21) 318 (1349, [vX 1000, vR 0, vR 60, vR 77, vI i, j5, j6], [], zH t p q E) = zf_ev X (d + 21) 318 (23, [vX 1000, vR 0, vR 60, vR 77, vI (i + 6), k5, k6], [], zH t' p' q' F) ∧ zJ F p' q' (n + 1) ∧ (t' = t ∨ t' = t ++ [(30, 6)]) := by
  obtain ⟨V, U, T, y, im, h⟩ := hJ
  obtain ⟨v, F, H, f1, y1, hj⟩ := C146 (X := X) (d := d) (t := t) h  
  refine ⟨t, p, q, H, j5, j6, ?_, hj, Or.inl rfl⟩
  rw [e318_1349, e318_1350 rfl (Nat.le_of_ble_eq_true rfl), f1, zk1 (npc := 1353) rfl, e318_1353, e318_1354 rfl (Nat.le_of_ble_eq_true rfl), y1, zk1 (npc := 1357) rfl, e318_1357, if_pos rfl, e318_1941 rfl, e318_1944]
theorem K33 (hX : ∀ j, -2147483648 ≤ X.2 j ∧ X.2 j < 2147483648) (hx : ∀ c, 0 ≤ c → c ≤ 5 → 0 ≤ n32 (i + c) ∧ n32 (i + c) < X.1) (hn : 0 ≤ n ∧ n ≤ 600) (hJ : zJ E p q n) : ∃ t' p' q' F k5 k6, zf_ev X (d + 21) 318 (1362, [vX 1000, vR 0, vR 60, vR 77, vI i, j5, j6], [], zH t p q E) = zf_ev X (d + 21) 318 (23, [vX 1000, vR 0, vR 60, vR 77, vI (i + 6), k5, k6], [], zH t' p' q' F) ∧ zJ F p' q' (n + 1) ∧ (t' = t ∨ t' = t ++ [(30, 6)]) := by
  obtain ⟨V, U, T, y, im, h⟩ := hJ
  obtain ⟨v, F, H, f1, y1, hj⟩ := C147 (X := X) (d := d) (t := t) h  
  refine ⟨t, p, q, H, j5, j6, ?_, hj, Or.inl rfl⟩
  rw [e318_1362, e318_1363 rfl (Nat.le_of_ble_eq_true rfl), f1, zk1 (npc := 1366) rfl, e318_1366, e318_1367 rfl (Nat.le_of_ble_eq_true rfl), y1, zk1 (npc := 1370) rfl, e318_1370, if_pos rfl, e318_1941 rfl, e318_1944]
theorem K34 (hX : ∀ j, -2147483648 ≤ X.2 j ∧ X.2 j < 2147483648) (hx : ∀ c, 0 ≤ c → c ≤ 5 → 0 ≤ n32 (i + c) ∧ n32 (i + c) < X.1) (hn : 0 ≤ n ∧ n ≤ 600) (hJ : zJ E p q n) : ∃ t' p' q' F k5 k6, zf_ev X (d + 21) 318 (1375, [vX 1000, vR 0, vR 60, vR 77, vI i, j5, j6], [], zH t p q E) = zf_ev X (d + 21) 318 (23, [vX 1000, vR 0, vR 60, vR 77, vI (i + 6), k5, k6], [], zH t' p' q' F) ∧ zJ F p' q' (n + 1) ∧ (t' = t ∨ t' = t ++ [(30, 6)]) := by
  obtain ⟨V, U, T, y, im, h⟩ := hJ
  obtain ⟨v, F, H, f1, y1, hj⟩ := C148 (X := X) (d := d) (t := t) h (m := (X.2 (n32 (i + 1)).toNat)) (hX _)
  refine ⟨t, p, q, H, j5, j6, ?_, hj, Or.inl rfl⟩
  rw [e318_1375, e318_1376, e318_1377, e318_1379, e318_1380, e318_1381 (hx 1 (by decide) (by decide)).1 (hx 1 (by decide) (by decide)).2, e318_1382 rfl (Nat.le_of_ble_eq_true rfl), f1, zk1 (npc := 1385) rfl, e318_1385, e318_1386, e318_1387, e318_1389, e318_1390, e318_1391 (hx 1 (by decide) (by decide)).1 (hx 1 (by decide) (by decide)).2, e318_1392 rfl (Nat.le_of_ble_eq_true rfl), y1, zk1 (npc := 1395) rfl, e318_1395, if_pos rfl, e318_1941 rfl, e318_1944]
theorem K35 (hX : ∀ j, -2147483648 ≤ X.2 j ∧ X.2 j < 2147483648) (hx : ∀ c, 0 ≤ c → c ≤ 5 → 0 ≤ n32 (i + c) ∧ n32 (i + c) < X.1) (hn : 0 ≤ n ∧ n ≤ 600) (hJ : zJ E p q n) : ∃ t' p' q' F k5 k6, zf_ev X (d + 21) 318 (1400, [vX 1000, vR 0, vR 60, vR 77, vI i, j5, j6], [], zH t p q E) = zf_ev X (d + 21) 318 (23, [vX 1000, vR 0, vR 60, vR 77, vI (i + 6), k5, k6], [], zH t' p' q' F) ∧ zJ F p' q' (n + 1) ∧ (t' = t ∨ t' = t ++ [(30, 6)]) := by
  obtain ⟨V, U, T, y, im, h⟩ := hJ
  obtain ⟨v, F, H, f1, y1, hj⟩ := C149 (X := X) (d := d) (t := t) h  
  refine ⟨t, p, q, H, j5, j6, ?_, hj, Or.inl rfl⟩
  rw [e318_1400, e318_1401 rfl (Nat.le_of_ble_eq_true rfl), f1, zk1 (npc := 1404) rfl, e318_1404, e318_1405 rfl (Nat.le_of_ble_eq_true rfl), y1, zk1 (npc := 1408) rfl, e318_1408, if_pos rfl, e318_1941 rfl, e318_1944]
theorem K36 (hX : ∀ j, -2147483648 ≤ X.2 j ∧ X.2 j < 2147483648) (hx : ∀ c, 0 ≤ c → c ≤ 5 → 0 ≤ n32 (i + c) ∧ n32 (i + c) < X.1) (hn : 0 ≤ n ∧ n ≤ 600) (hJ : zJ E p q n) : ∃ t' p' q' F k5 k6, zf_ev X (d + 21) 318 (1413, [vX 1000, vR 0, vR 60, vR 77, vI i, j5, j6], [], zH t p q E) = zf_ev X (d + 21) 318 (23, [vX 1000, vR 0, vR 60, vR 77, vI (i + 6), k5, k6], [], zH t' p' q' F) ∧ zJ F p' q' (n + 1) ∧ (t' = t ∨ t' = t ++ [(30, 6)]) := by
  obtain ⟨V, U, T, y, im, h⟩ := hJ
  obtain ⟨v, F, H, f1, y1, hj⟩ := C150 (X := X) (d := d) (t := t) h  
  refine ⟨t, p, q, H, j5, j6, ?_, hj, Or.inl rfl⟩
  rw [e318_1413, e318_1414 rfl (Nat.le_of_ble_eq_true rfl), f1, zk1 (npc := 1417) rfl, e318_1417, e318_1418 rfl (Nat.le_of_ble_eq_true rfl), y1, zk1 (npc := 1421) rfl, e318_1421, if_pos rfl, e318_1941 rfl, e318_1944]
theorem K37 (hX : ∀ j, -2147483648 ≤ X.2 j ∧ X.2 j < 2147483648) (hx : ∀ c, 0 ≤ c → c ≤ 5 → 0 ≤ n32 (i + c) ∧ n32 (i + c) < X.1) (hn : 0 ≤ n ∧ n ≤ 600) (hJ : zJ E p q n) : ∃ t' p' q' F k5 k6, zf_ev X (d + 21) 318 (1426, [vX 1000, vR 0, vR 60, vR 77, vI i, j5, j6], [], zH t p q E) = zf_ev X (d + 21) 318 (23, [vX 1000, vR 0, vR 60, vR 77, vI (i + 6), k5, k6], [], zH t' p' q' F) ∧ zJ F p' q' (n + 1) ∧ (t' = t ∨ t' = t ++ [(30, 6)]) := by
  obtain ⟨V, U, T, y, im, h⟩ := hJ
  obtain ⟨v, F, H, f1, y1, hj⟩ := C151 (X := X) (d := d) (t := t) h (s := (X.2 (n32 (i + 1)).toNat)) (sd := (X.2 (n32 (i + 2)).toNat)) (k := (X.2 (n32 (i + 3)).toNat)) (hX _) (hX _) (hX _)
  refine ⟨t, p, q, H, j5, j6, ?_, hj, Or.inl rfl⟩
  rw [e318_1426, e318_1427, e318_1428, e318_1430, e318_1431, e318_1432 (hx 1 (by decide) (by decide)).1 (hx 1 (by decide) (by decide)).2, e318_1433, e318_1434, e318_1436, e318_1437, e318_1438 (hx 2 (by decide) (by decide)).1 (hx 2 (by decide) (by decide)).2, e318_1439, e318_1440, e318_1442, e318_1443, e318_1444 (hx 3 (by decide) (by decide)).1 (hx 3 (by decide) (by decide)).2, e318_1445 rfl (Nat.le_of_ble_eq_true rfl), f1, zk1 (npc := 1448) rfl, e318_1448, e318_1449, e318_1450, e318_1452, e318_1453, e318_1454 (hx 1 (by decide) (by decide)).1 (hx 1 (by decide) (by decide)).2, e318_1455, e318_1456, e318_1458, e318_1459, e318_1460 (hx 2 (by decide) (by decide)).1 (hx 2 (by decide) (by decide)).2, e318_1461, e318_1462, e318_1464, e318_1465, e318_1466 (hx 3 (by decide) (by decide)).1 (hx 3 (by decide) (by decide)).2, e318_1467 rfl (Nat.le_of_ble_eq_true rfl), y1, zk1 (npc := 1470) rfl, e318_1470, if_pos rfl, e318_1941 rfl, e318_1944]
theorem K38 (hX : ∀ j, -2147483648 ≤ X.2 j ∧ X.2 j < 2147483648) (hx : ∀ c, 0 ≤ c → c ≤ 5 → 0 ≤ n32 (i + c) ∧ n32 (i + c) < X.1) (hn : 0 ≤ n ∧ n ≤ 600) (hJ : zJ E p q n) : ∃ t' p' q' F k5 k6, zf_ev X (d + 21) 318 (1475, [vX 1000, vR 0, vR 60, vR 77, vI i, j5, j6], [], zH t p q E) = zf_ev X (d + 21) 318 (23, [vX 1000, vR 0, vR 60, vR 77, vI (i + 6), k5, k6], [], zH t' p' q' F) ∧ zJ F p' q' (n + 1) ∧ (t' = t ∨ t' = t ++ [(30, 6)]) := by
  obtain ⟨V, U, T, y, im, h⟩ := hJ
  obtain ⟨v, F, H, f1, y1, hj⟩ := C152 (X := X) (d := d) (t := t) h (sd := (X.2 (n32 (i + 1)).toNat)) (k := (X.2 (n32 (i + 2)).toNat)) (hX _) (hX _)
  refine ⟨t, p, q, H, j5, j6, ?_, hj, Or.inl rfl⟩
  rw [e318_1475, e318_1476, e318_1477, e318_1479, e318_1480, e318_1481 (hx 1 (by decide) (by decide)).1 (hx 1 (by decide) (by decide)).2, e318_1482, e318_1483, e318_1485, e318_1486, e318_1487 (hx 2 (by decide) (by decide)).1 (hx 2 (by decide) (by decide)).2, e318_1488 rfl (Nat.le_of_ble_eq_true rfl), f1, zk1 (npc := 1491) rfl, e318_1491, e318_1492, e318_1493, e318_1495, e318_1496, e318_1497 (hx 1 (by decide) (by decide)).1 (hx 1 (by decide) (by decide)).2, e318_1498, e318_1499, e318_1501, e318_1502, e318_1503 (hx 2 (by decide) (by decide)).1 (hx 2 (by decide) (by decide)).2, e318_1504 rfl (Nat.le_of_ble_eq_true rfl), y1, zk1 (npc := 1507) rfl, e318_1507, if_pos rfl, e318_1941 rfl, e318_1944]
theorem K39 (hX : ∀ j, -2147483648 ≤ X.2 j ∧ X.2 j < 2147483648) (hx : ∀ c, 0 ≤ c → c ≤ 5 → 0 ≤ n32 (i + c) ∧ n32 (i + c) < X.1) (hn : 0 ≤ n ∧ n ≤ 600) (hJ : zJ E p q n) : ∃ t' p' q' F k5 k6, zf_ev X (d + 21) 318 (1512, [vX 1000, vR 0, vR 60, vR 77, vI i, j5, j6], [], zH t p q E) = zf_ev X (d + 21) 318 (23, [vX 1000, vR 0, vR 60, vR 77, vI (i + 6), k5, k6], [], zH t' p' q' F) ∧ zJ F p' q' (n + 1) ∧ (t' = t ∨ t' = t ++ [(30, 6)]) := by
  obtain ⟨V, U, T, y, im, h⟩ := hJ
  obtain ⟨v, F, H, f1, y1, hj⟩ := C153 (X := X) (d := d) (t := t) h (m := (X.2 (n32 (i + 1)).toNat)) (sd := (X.2 (n32 (i + 2)).toNat)) (k := (X.2 (n32 (i + 3)).toNat)) (hX _) (hX _) (hX _)
  refine ⟨t, p, q, H, j5, j6, ?_, hj, Or.inl rfl⟩
  rw [e318_1512, e318_1513, e318_1514, e318_1516, e318_1517, e318_1518 (hx 1 (by decide) (by decide)).1 (hx 1 (by decide) (by decide)).2, e318_1519, e318_1520, e318_1522, e318_1523, e318_1524 (hx 2 (by decide) (by decide)).1 (hx 2 (by decide) (by decide)).2, e318_1525, e318_1526, e318_1528, e318_1529, e318_1530 (hx 3 (by decide) (by decide)).1 (hx 3 (by decide) (by decide)).2, e318_1531 rfl (Nat.le_of_ble_eq_true rfl), f1, zk1 (npc := 1534) rfl, e318_1534, e318_1535, e318_1536, e318_1538, e318_1539, e318_1540 (hx 1 (by decide) (by decide)).1 (hx 1 (by decide) (by decide)).2, e318_1541, e318_1542, e318_1544, e318_1545, e318_1546 (hx 2 (by decide) (by decide)).1 (hx 2 (by decide) (by decide)).2, e318_1547, e318_1548, e318_1550, e318_1551, e318_1552 (hx 3 (by decide) (by decide)).1 (hx 3 (by decide) (by decide)).2, e318_1553 rfl (Nat.le_of_ble_eq_true rfl), y1, zk1 (npc := 1556) rfl, e318_1556, if_pos rfl, e318_1941 rfl, e318_1944]
theorem K40 (hX : ∀ j, -2147483648 ≤ X.2 j ∧ X.2 j < 2147483648) (hx : ∀ c, 0 ≤ c → c ≤ 5 → 0 ≤ n32 (i + c) ∧ n32 (i + c) < X.1) (hn : 0 ≤ n ∧ n ≤ 600) (hJ : zJ E p q n) : ∃ t' p' q' F k5 k6, zf_ev X (d + 21) 318 (1561, [vX 1000, vR 0, vR 60, vR 77, vI i, j5, j6], [], zH t p q E) = zf_ev X (d + 21) 318 (23, [vX 1000, vR 0, vR 60, vR 77, vI (i + 6), k5, k6], [], zH t' p' q' F) ∧ zJ F p' q' (n + 1) ∧ (t' = t ∨ t' = t ++ [(30, 6)]) := by
  obtain ⟨V, U, T, y, im, h⟩ := hJ
  obtain ⟨v, F, H, f1, y1, hj⟩ := C154 (X := X) (d := d) (t := t) h (m := (X.2 (n32 (i + 1)).toNat)) (c := (X.2 (n32 (i + 2)).toNat)) (hX _) (hX _)
  refine ⟨t, p, q, H, j5, j6, ?_, hj, Or.inl rfl⟩
  rw [e318_1561, e318_1562, e318_1563, e318_1565, e318_1566, e318_1567 (hx 1 (by decide) (by decide)).1 (hx 1 (by decide) (by decide)).2, e318_1568, e318_1569, e318_1571, e318_1572, e318_1573 (hx 2 (by decide) (by decide)).1 (hx 2 (by decide) (by decide)).2, e318_1574 rfl (Nat.le_of_ble_eq_true rfl), f1, zk1 (npc := 1577) rfl, e318_1577, e318_1578, e318_1579, e318_1581, e318_1582, e318_1583 (hx 1 (by decide) (by decide)).1 (hx 1 (by decide) (by decide)).2, e318_1584, e318_1585, e318_1587, e318_1588, e318_1589 (hx 2 (by decide) (by decide)).1 (hx 2 (by decide) (by decide)).2, e318_1590 rfl (Nat.le_of_ble_eq_true rfl), y1, zk1 (npc := 1593) rfl, e318_1593, if_pos rfl, e318_1941 rfl, e318_1944]
theorem K41 (hX : ∀ j, -2147483648 ≤ X.2 j ∧ X.2 j < 2147483648) (hx : ∀ c, 0 ≤ c → c ≤ 5 → 0 ≤ n32 (i + c) ∧ n32 (i + c) < X.1) (hn : 0 ≤ n ∧ n ≤ 600) (hJ : zJ E p q n) : ∃ t' p' q' F k5 k6, zf_ev X (d + 21) 318 (1598, [vX 1000, vR 0, vR 60, vR 77, vI i, j5, j6], [], zH t p q E) = zf_ev X (d + 21) 318 (23, [vX 1000, vR 0, vR 60, vR 77, vI (i + 6), k5, k6], [], zH t' p' q' F) ∧ zJ F p' q' (n + 1) ∧ (t' = t ∨ t' = t ++ [(30, 6)]) := by
  obtain ⟨V, U, T, y, im, h⟩ := hJ
  obtain ⟨v, F, H, f1, y1, hj⟩ := C155 (X := X) (d := d) (t := t) h (m := (X.2 (n32 (i + 1)).toNat)) (c := (X.2 (n32 (i + 2)).toNat)) (hX _) (hX _)
  refine ⟨t, p, q, H, j5, j6, ?_, hj, Or.inl rfl⟩
  rw [e318_1598, e318_1599, e318_1600, e318_1602, e318_1603, e318_1604 (hx 1 (by decide) (by decide)).1 (hx 1 (by decide) (by decide)).2, e318_1605, e318_1606, e318_1608, e318_1609, e318_1610 (hx 2 (by decide) (by decide)).1 (hx 2 (by decide) (by decide)).2, e318_1611 rfl (Nat.le_of_ble_eq_true rfl), f1, zk1 (npc := 1614) rfl, e318_1614, e318_1615, e318_1616, e318_1618, e318_1619, e318_1620 (hx 1 (by decide) (by decide)).1 (hx 1 (by decide) (by decide)).2, e318_1621, e318_1622, e318_1624, e318_1625, e318_1626 (hx 2 (by decide) (by decide)).1 (hx 2 (by decide) (by decide)).2, e318_1627 rfl (Nat.le_of_ble_eq_true rfl), y1, zk1 (npc := 1630) rfl, e318_1630, if_pos rfl, e318_1941 rfl, e318_1944]
theorem K42 (hX : ∀ j, -2147483648 ≤ X.2 j ∧ X.2 j < 2147483648) (hx : ∀ c, 0 ≤ c → c ≤ 5 → 0 ≤ n32 (i + c) ∧ n32 (i + c) < X.1) (hn : 0 ≤ n ∧ n ≤ 600) (hJ : zJ E p q n) : ∃ t' p' q' F k5 k6, zf_ev X (d + 21) 318 (1635, [vX 1000, vR 0, vR 60, vR 77, vI i, j5, j6], [], zH t p q E) = zf_ev X (d + 21) 318 (23, [vX 1000, vR 0, vR 60, vR 77, vI (i + 6), k5, k6], [], zH t' p' q' F) ∧ zJ F p' q' (n + 1) ∧ (t' = t ∨ t' = t ++ [(30, 6)]) := by
  obtain ⟨V, U, T, y, im, h⟩ := hJ
  obtain ⟨v, F, H, f1, y1, hj⟩ := C156 (X := X) (d := d) (t := t) h (m := (X.2 (n32 (i + 1)).toNat)) (c := (X.2 (n32 (i + 2)).toNat)) (hX _) (hX _)
  refine ⟨t, p, q, H, j5, j6, ?_, hj, Or.inl rfl⟩
  rw [e318_1635, e318_1636, e318_1637, e318_1639, e318_1640, e318_1641 (hx 1 (by decide) (by decide)).1 (hx 1 (by decide) (by decide)).2, e318_1642, e318_1643, e318_1645, e318_1646, e318_1647 (hx 2 (by decide) (by decide)).1 (hx 2 (by decide) (by decide)).2, e318_1648 rfl (Nat.le_of_ble_eq_true rfl), f1, zk1 (npc := 1651) rfl, e318_1651, e318_1652, e318_1653, e318_1655, e318_1656, e318_1657 (hx 1 (by decide) (by decide)).1 (hx 1 (by decide) (by decide)).2, e318_1658, e318_1659, e318_1661, e318_1662, e318_1663 (hx 2 (by decide) (by decide)).1 (hx 2 (by decide) (by decide)).2, e318_1664 rfl (Nat.le_of_ble_eq_true rfl), y1, zk1 (npc := 1667) rfl, e318_1667, if_pos rfl, e318_1941 rfl, e318_1944]
theorem K43 (hX : ∀ j, -2147483648 ≤ X.2 j ∧ X.2 j < 2147483648) (hx : ∀ c, 0 ≤ c → c ≤ 5 → 0 ≤ n32 (i + c) ∧ n32 (i + c) < X.1) (hn : 0 ≤ n ∧ n ≤ 600) (hJ : zJ E p q n) : ∃ t' p' q' F k5 k6, zf_ev X (d + 21) 318 (1672, [vX 1000, vR 0, vR 60, vR 77, vI i, j5, j6], [], zH t p q E) = zf_ev X (d + 21) 318 (23, [vX 1000, vR 0, vR 60, vR 77, vI (i + 6), k5, k6], [], zH t' p' q' F) ∧ zJ F p' q' (n + 1) ∧ (t' = t ∨ t' = t ++ [(30, 6)]) := by
  obtain ⟨V, U, T, y, im, h⟩ := hJ
  obtain ⟨v, F, H, f1, y1, hj⟩ := C157 (X := X) (d := d) (t := t) h (r := (X.2 (n32 (i + 1)).toNat)) (c := (X.2 (n32 (i + 2)).toNat)) (hX _) (hX _)
  refine ⟨t, p, q, H, j5, j6, ?_, hj, Or.inl rfl⟩
  rw [e318_1672, e318_1673, e318_1674, e318_1676, e318_1677, e318_1678 (hx 1 (by decide) (by decide)).1 (hx 1 (by decide) (by decide)).2, e318_1679, e318_1680, e318_1682, e318_1683, e318_1684 (hx 2 (by decide) (by decide)).1 (hx 2 (by decide) (by decide)).2, e318_1685 rfl (Nat.le_of_ble_eq_true rfl), f1, zk1 (npc := 1688) rfl, e318_1688, e318_1689, e318_1690, e318_1692, e318_1693, e318_1694 (hx 1 (by decide) (by decide)).1 (hx 1 (by decide) (by decide)).2, e318_1695, e318_1696, e318_1698, e318_1699, e318_1700 (hx 2 (by decide) (by decide)).1 (hx 2 (by decide) (by decide)).2, e318_1701 rfl (Nat.le_of_ble_eq_true rfl), y1, zk1 (npc := 1704) rfl, e318_1704, if_pos rfl, e318_1941 rfl, e318_1944]
theorem K44 (hX : ∀ j, -2147483648 ≤ X.2 j ∧ X.2 j < 2147483648) (hx : ∀ c, 0 ≤ c → c ≤ 5 → 0 ≤ n32 (i + c) ∧ n32 (i + c) < X.1) (hn : 0 ≤ n ∧ n ≤ 600) (hJ : zJ E p q n) : ∃ t' p' q' F k5 k6, zf_ev X (d + 21) 318 (1709, [vX 1000, vR 0, vR 60, vR 77, vI i, j5, j6], [], zH t p q E) = zf_ev X (d + 21) 318 (23, [vX 1000, vR 0, vR 60, vR 77, vI (i + 6), k5, k6], [], zH t' p' q' F) ∧ zJ F p' q' (n + 1) ∧ (t' = t ∨ t' = t ++ [(30, 6)]) := by
  obtain ⟨V, U, T, y, im, h⟩ := hJ
  obtain ⟨v, F, H, f1, y1, hj⟩ := C158 (X := X) (d := d) (t := t) h (s := (X.2 (n32 (i + 1)).toNat)) (c := (X.2 (n32 (i + 2)).toNat)) (r := (X.2 (n32 (i + 3)).toNat)) (hX _) (hX _) (hX _)
  refine ⟨t, p, q, H, j5, j6, ?_, hj, Or.inl rfl⟩
  rw [e318_1709, e318_1710, e318_1711, e318_1713, e318_1714, e318_1715 (hx 1 (by decide) (by decide)).1 (hx 1 (by decide) (by decide)).2, e318_1716, e318_1717, e318_1719, e318_1720, e318_1721 (hx 2 (by decide) (by decide)).1 (hx 2 (by decide) (by decide)).2, e318_1722, e318_1723, e318_1725, e318_1726, e318_1727 (hx 3 (by decide) (by decide)).1 (hx 3 (by decide) (by decide)).2, e318_1728 rfl (Nat.le_of_ble_eq_true rfl), f1, zk1 (npc := 1731) rfl, e318_1731, e318_1732, e318_1733, e318_1735, e318_1736, e318_1737 (hx 1 (by decide) (by decide)).1 (hx 1 (by decide) (by decide)).2, e318_1738, e318_1739, e318_1741, e318_1742, e318_1743 (hx 2 (by decide) (by decide)).1 (hx 2 (by decide) (by decide)).2, e318_1744, e318_1745, e318_1747, e318_1748, e318_1749 (hx 3 (by decide) (by decide)).1 (hx 3 (by decide) (by decide)).2, e318_1750 rfl (Nat.le_of_ble_eq_true rfl), y1, zk1 (npc := 1753) rfl, e318_1753, if_pos rfl, e318_1941 rfl, e318_1944]
theorem K45 (hX : ∀ j, -2147483648 ≤ X.2 j ∧ X.2 j < 2147483648) (hx : ∀ c, 0 ≤ c → c ≤ 5 → 0 ≤ n32 (i + c) ∧ n32 (i + c) < X.1) (hn : 0 ≤ n ∧ n ≤ 600) (hJ : zJ E p q n) : ∃ t' p' q' F k5 k6, zf_ev X (d + 21) 318 (1758, [vX 1000, vR 0, vR 60, vR 77, vI i, j5, j6], [], zH t p q E) = zf_ev X (d + 21) 318 (23, [vX 1000, vR 0, vR 60, vR 77, vI (i + 6), k5, k6], [], zH t' p' q' F) ∧ zJ F p' q' (n + 1) ∧ (t' = t ∨ t' = t ++ [(30, 6)]) := by
  obtain ⟨V, U, T, y, im, h⟩ := hJ
  obtain ⟨v, F, H, f1, y1, hj⟩ := C159 (X := X) (d := d) (t := t) h   hn
  refine ⟨t, p, q, H, j5, j6, ?_, hj, Or.inl rfl⟩
  rw [e318_1758, e318_1759 rfl (Nat.le_of_ble_eq_true rfl), f1, zk1 (npc := 1762) rfl, e318_1762, e318_1763 rfl (Nat.le_of_ble_eq_true rfl), y1, zk1 (npc := 1766) rfl, e318_1766, if_pos rfl, e318_1941 rfl, e318_1944]
theorem K46 (hX : ∀ j, -2147483648 ≤ X.2 j ∧ X.2 j < 2147483648) (hx : ∀ c, 0 ≤ c → c ≤ 5 → 0 ≤ n32 (i + c) ∧ n32 (i + c) < X.1) (hn : 0 ≤ n ∧ n ≤ 600) (hJ : zJ E p q n) : ∃ t' p' q' F k5 k6, zf_ev X (d + 21) 318 (1771, [vX 1000, vR 0, vR 60, vR 77, vI i, j5, j6], [], zH t p q E) = zf_ev X (d + 21) 318 (23, [vX 1000, vR 0, vR 60, vR 77, vI (i + 6), k5, k6], [], zH t' p' q' F) ∧ zJ F p' q' (n + 1) ∧ (t' = t ∨ t' = t ++ [(30, 6)]) := by
  obtain ⟨V, U, T, y, im, h⟩ := hJ
  obtain ⟨v, F, H, f1, y1, hj⟩ := C160 (X := X) (d := d) (t := t) h (v := (X.2 (n32 (i + 1)).toNat)) (hX _)
  refine ⟨t, p, q, H, j5, j6, ?_, hj, Or.inl rfl⟩
  rw [e318_1771, e318_1772, e318_1773, e318_1775, e318_1776, e318_1777 (hx 1 (by decide) (by decide)).1 (hx 1 (by decide) (by decide)).2, e318_1778 rfl (Nat.le_of_ble_eq_true rfl), f1, zk1 (npc := 1781) rfl, e318_1781, e318_1782, e318_1783, e318_1785, e318_1786, e318_1787 (hx 1 (by decide) (by decide)).1 (hx 1 (by decide) (by decide)).2, e318_1788 rfl (Nat.le_of_ble_eq_true rfl), y1, zk1 (npc := 1791) rfl, e318_1791, if_pos rfl, e318_1941 rfl, e318_1944]
theorem K47 (hX : ∀ j, -2147483648 ≤ X.2 j ∧ X.2 j < 2147483648) (hx : ∀ c, 0 ≤ c → c ≤ 5 → 0 ≤ n32 (i + c) ∧ n32 (i + c) < X.1) (hn : 0 ≤ n ∧ n ≤ 600) (hJ : zJ E p q n) : ∃ t' p' q' F k5 k6, zf_ev X (d + 21) 318 (1796, [vX 1000, vR 0, vR 60, vR 77, vI i, j5, j6], [], zH t p q E) = zf_ev X (d + 21) 318 (23, [vX 1000, vR 0, vR 60, vR 77, vI (i + 6), k5, k6], [], zH t' p' q' F) ∧ zJ F p' q' (n + 1) ∧ (t' = t ∨ t' = t ++ [(30, 6)]) := by
  obtain ⟨V, U, T, y, im, h⟩ := hJ
  obtain ⟨v, F, H, f1, y1, hj⟩ := C161 (X := X) (d := d) (t := t) h  
  refine ⟨t, p, q, H, j5, j6, ?_, hj, Or.inl rfl⟩
  rw [e318_1796, e318_1797 rfl (Nat.le_of_ble_eq_true rfl), f1, zk1 (npc := 1800) rfl, e318_1800, e318_1801 rfl (Nat.le_of_ble_eq_true rfl), y1, zk1 (npc := 1804) rfl, e318_1804, if_pos rfl, e318_1941 rfl, e318_1944]
theorem K48 (hX : ∀ j, -2147483648 ≤ X.2 j ∧ X.2 j < 2147483648) (hx : ∀ c, 0 ≤ c → c ≤ 5 → 0 ≤ n32 (i + c) ∧ n32 (i + c) < X.1) (hn : 0 ≤ n ∧ n ≤ 600) (hJ : zJ E p q n) : ∃ t' p' q' F k5 k6, zf_ev X (d + 21) 318 (1809, [vX 1000, vR 0, vR 60, vR 77, vI i, j5, j6], [], zH t p q E) = zf_ev X (d + 21) 318 (23, [vX 1000, vR 0, vR 60, vR 77, vI (i + 6), k5, k6], [], zH t' p' q' F) ∧ zJ F p' q' (n + 1) ∧ (t' = t ∨ t' = t ++ [(30, 6)]) := by
  obtain ⟨V, U, T, y, im, h⟩ := hJ
  obtain ⟨v, F, H, f1, y1, hj⟩ := C162 (X := X) (d := d) (t := t) h  
  refine ⟨t, p, q, H, j5, j6, ?_, hj, Or.inl rfl⟩
  rw [e318_1809, e318_1810 rfl (Nat.le_of_ble_eq_true rfl), f1, zk1 (npc := 1813) rfl, e318_1813, e318_1814 rfl (Nat.le_of_ble_eq_true rfl), y1, zk1 (npc := 1817) rfl, e318_1817, if_pos rfl, e318_1941 rfl, e318_1944]
theorem K49 (hX : ∀ j, -2147483648 ≤ X.2 j ∧ X.2 j < 2147483648) (hx : ∀ c, 0 ≤ c → c ≤ 5 → 0 ≤ n32 (i + c) ∧ n32 (i + c) < X.1) (hn : 0 ≤ n ∧ n ≤ 600) (hJ : zJ E p q n) : ∃ t' p' q' F k5 k6, zf_ev X (d + 21) 318 (1822, [vX 1000, vR 0, vR 60, vR 77, vI i, j5, j6], [], zH t p q E) = zf_ev X (d + 21) 318 (23, [vX 1000, vR 0, vR 60, vR 77, vI (i + 6), k5, k6], [], zH t' p' q' F) ∧ zJ F p' q' (n + 1) ∧ (t' = t ∨ t' = t ++ [(30, 6)]) := by
  obtain ⟨V, U, T, y, im, h⟩ := hJ
  obtain ⟨v, F, H, f1, y1, hj⟩ := C163 (X := X) (d := d) (t := t) h (i := (X.2 (n32 (i + 1)).toNat)) (hX _)
  refine ⟨t, p, q, H, j5, j6, ?_, hj, Or.inl rfl⟩
  rw [e318_1822, e318_1823, e318_1824, e318_1826, e318_1827, e318_1828 (hx 1 (by decide) (by decide)).1 (hx 1 (by decide) (by decide)).2, e318_1829 rfl (Nat.le_of_ble_eq_true rfl), f1, zk1 (npc := 1832) rfl, e318_1832, e318_1833, e318_1834, e318_1836, e318_1837, e318_1838 (hx 1 (by decide) (by decide)).1 (hx 1 (by decide) (by decide)).2, e318_1839 rfl (Nat.le_of_ble_eq_true rfl), y1, zk1 (npc := 1842) rfl, e318_1842, if_pos rfl, e318_1941 rfl, e318_1944]
theorem K51 (hX : ∀ j, -2147483648 ≤ X.2 j ∧ X.2 j < 2147483648) (hx : ∀ c, 0 ≤ c → c ≤ 5 → 0 ≤ n32 (i + c) ∧ n32 (i + c) < X.1) (hn : 0 ≤ n ∧ n ≤ 600) (hJ : zJ E p q n) : ∃ t' p' q' F k5 k6, zf_ev X (d + 21) 318 (1903, [vX 1000, vR 0, vR 60, vR 77, vI i, j5, j6], [], zH t p q E) = zf_ev X (d + 21) 318 (23, [vX 1000, vR 0, vR 60, vR 77, vI (i + 6), k5, k6], [], zH t' p' q' F) ∧ zJ F p' q' (n + 1) ∧ (t' = t ∨ t' = t ++ [(30, 6)]) := by
  obtain ⟨V, U, T, y, im, h⟩ := hJ
  obtain ⟨v, F, H, f1, y1, hj⟩ := C165 (X := X) (d := d) (t := t) h (w := (X.2 (n32 (i + 1)).toNat)) (hX _)
  refine ⟨t, p, q, H, j5, j6, ?_, hj, Or.inl rfl⟩
  rw [e318_1903, e318_1904, e318_1905, e318_1907, e318_1908, e318_1909 (hx 1 (by decide) (by decide)).1 (hx 1 (by decide) (by decide)).2, e318_1910 rfl (Nat.le_of_ble_eq_true rfl), f1, zk1 (npc := 1913) rfl, e318_1913, e318_1914, e318_1915, e318_1917, e318_1918, e318_1919 (hx 1 (by decide) (by decide)).1 (hx 1 (by decide) (by decide)).2, e318_1920 rfl (Nat.le_of_ble_eq_true rfl), y1, zk1 (npc := 1923) rfl, e318_1923, if_pos rfl, e318_1941 rfl, e318_1944]
theorem K52 (hX : ∀ j, -2147483648 ≤ X.2 j ∧ X.2 j < 2147483648) (hx : ∀ c, 0 ≤ c → c ≤ 5 → 0 ≤ n32 (i + c) ∧ n32 (i + c) < X.1) (hn : 0 ≤ n ∧ n ≤ 600) (hJ : zJ E p q n) : ∃ t' p' q' F k5 k6, zf_ev X (d + 21) 318 (1928, [vX 1000, vR 0, vR 60, vR 77, vI i, j5, j6], [], zH t p q E) = zf_ev X (d + 21) 318 (23, [vX 1000, vR 0, vR 60, vR 77, vI (i + 6), k5, k6], [], zH t' p' q' F) ∧ zJ F p' q' (n + 1) ∧ (t' = t ∨ t' = t ++ [(30, 6)]) := by
  obtain ⟨V, U, T, y, im, h⟩ := hJ
  obtain ⟨v, F, H, f1, y1, hj⟩ := C166 (X := X) (d := d) (t := t) h  
  refine ⟨t, p, q, H, j5, j6, ?_, hj, Or.inl rfl⟩
  rw [e318_1928, e318_1929 rfl (Nat.le_of_ble_eq_true rfl), f1, zk1 (npc := 1932) rfl, e318_1932, e318_1933 rfl (Nat.le_of_ble_eq_true rfl), y1, zk1 (npc := 1936) rfl, e318_1936, if_pos rfl, e318_1941 rfl, e318_1944]
theorem T317s {F : Nat → Int → Int} {a r : Int} (hr : 0 ≤ r ∧ r < 6) (h : zf_ev X (d + 19) 164 (0, [vR 0, vI a, vJ, vJ, vJ], [], zH t p q E) = some (some [vI r], zH t p q F)) : zf_ev X (d + 20) 317 (0, [vR 0, vI a, vR 77, vJ], [], zH t p q E) = some (some [vI 0], zH t p q (zu F 77 0 r)) := by
  rw [L317_0, h, L317_k4]
  simp (disch := omega) only [n32_id, zg_pos, if_pos, if_neg, zu_same, zu_ne, if_true, if_false, ne_eq, not_true_eq_false, not_false_eq_true, true_or, or_true, true_and, and_true, zg_true, fa_b_f, fa_b_t]
theorem T317n {F : Nat → Int → Int} {a : Int} (h : zf_ev X (d + 19) 164 (0, [vR 0, vI a, vJ, vJ, vJ], [], zH t p q E) = some (none, zH t p q F)) : zf_ev X (d + 20) 317 (0, [vR 0, vI a, vR 77, vJ], [], zH t p q E) = some (some [vI 1], zH (t ++ [(30, 6)]) p q F) := by
  have e : zf_k X (d + 20) 317 4 [vR 0, vI a, vR 77, vJ] [vI 0, vR 77] (some (none, zH t p q F)) = zf_ev X (d + 20) 317 (13, [vR 0, vI a, vR 77, vJ], [], ((zH t p q F).1 ++ [(30, 6)], (zH t p q F).2)) := rfl
  have e2 : ((zH t p q F).1 ++ [(30, 6)], (zH t p q F).2) = zH (t ++ [(30, 6)]) p q F := by
    unfold zH
    simp only [List.append_assoc]
  rw [L317_0, h, e, e2, e317_13, e317_14]
theorem K50 (hX : ∀ j, -2147483648 ≤ X.2 j ∧ X.2 j < 2147483648) (hx : ∀ c, 0 ≤ c → c ≤ 5 → 0 ≤ n32 (i + c) ∧ n32 (i + c) < X.1) (hn : 0 ≤ n ∧ n ≤ 600) (hJ : zJ E p q n) : ∃ t' p' q' F k5 k6, zf_ev X (d + 21) 318 (1847, [vX 1000, vR 0, vR 60, vR 77, vI i, j5, j6], [], zH t p q E) = zf_ev X (d + 21) 318 (23, [vX 1000, vR 0, vR 60, vR 77, vI (i + 6), k5, k6], [], zH t' p' q' F) ∧ zJ F p' q' (n + 1) ∧ (t' = t ∨ t' = t ++ [(30, 6)]) := by
  obtain ⟨V, U, T, y, im, h⟩ := hJ
  obtain ⟨F, f1, hF⟩ := C164 (X := X) (d := d) (t := t) h (i := X.2 (n32 (i + 1)).toNat) (hX _)
  have hVz : zV V ∨ ∀ k, V k = 0 := by
    rcases h.1.2.2.2 with ⟨hV, -⟩ | ⟨hz, -⟩
    · exact Or.inl hV
    · exact Or.inr hz
  cases hr : sv_led V (X.2 (n32 (i + 1)).toNat) with
  | none =>
    rw [hr] at f1
    have g1 := T317n f1
    obtain ⟨H, y1, -, hH⟩ := C314 (X := X) (d := d) (t := t ++ [(30, 6)]) hF (i := X.2 (n32 (i + 1)).toNat) (hX _)
    rw [hr] at y1
    have y1 : zf_ev X (d + 20) 314 (0, [vR 60, vI (X.2 (n32 (i + 1)).toNat), vJ, vJ, vJ], [], zH (t ++ [(30, 6)]) p q F) = some (some [vI 0], zH (t ++ [(30, 6)]) p q (zu H 60 0 1)) := y1
    have y2 : zf_ev X (d + 20) 176 (0, [vR 60], [], zH (t ++ [(30, 6)]) p q (zu H 60 0 1)) = some (some [vI 1], zH (t ++ [(30, 6)]) p q (zu H 60 0 1)) := by rw [L176_0, zu_same]
    refine ⟨t ++ [(30, 6)], p, q, zu H 60 0 1, vI 1, vI 0, ?_, ⟨V, U, T, y, im, hH 1⟩, Or.inr rfl⟩
    rw [e318_1847, e318_1848, e318_1849, e318_1851, e318_1852, e318_1853 (hx 1 (by decide) (by decide)).1 (hx 1 (by decide) (by decide)).2, e318_1854, e318_1855 (Nat.le_of_ble_eq_true rfl), g1, zk1 (npc := 1858) rfl, e318_1858 rfl, e318_1860, e318_1861, e318_1862, e318_1864, e318_1865, e318_1866 (hx 1 (by decide) (by decide)).1 (hx 1 (by decide) (by decide)).2, e318_1867 rfl (Nat.le_of_ble_eq_true rfl), y1, zk1 (npc := 1870) rfl, e318_1870 rfl, e318_1872, e318_1873 rfl (Nat.le_of_ble_eq_true rfl), y2, zk1 (npc := 1876) rfl, e318_1876, e318_1878, if_pos rfl, e318_1883, e318_1885, if_pos (by decide), e318_1900, e318_1941 rfl, e318_1944]
  | some r =>
    have hrr := sv_led_r hVz hr
    rw [hr] at f1
    have g1 := T317s hrr f1
    obtain ⟨H, y1, h77, hH⟩ := C314 (X := X) (d := d) (t := t) (hF.hi (F := zu F 77 0 r) (fun a b u => zu_ne (by omega))) (i := X.2 (n32 (i + 1)).toNat) (hX _)
    rw [hr] at y1
    have y1 : zf_ev X (d + 20) 314 (0, [vR 60, vI (X.2 (n32 (i + 1)).toNat), vJ, vJ, vJ], [], zH t p q (zu F 77 0 r)) = some (some [vI r], zH t p q (zu H 60 0 0)) := y1
    have y2 : zf_ev X (d + 20) 176 (0, [vR 60], [], zH t p q (zu H 60 0 0)) = some (some [vI 0], zH t p q (zu H 60 0 0)) := by rw [L176_0, zu_same]
    have e77 : zu H 60 0 0 77 0 = r := by rw [zu_ne (by omega), h77, zu_same]
    refine ⟨t, p, q, zu H 60 0 0, vI 0, vI r, ?_, ⟨V, U, T, y, im, hH 0⟩, Or.inl rfl⟩
    rw [e318_1847, e318_1848, e318_1849, e318_1851, e318_1852, e318_1853 (hx 1 (by decide) (by decide)).1 (hx 1 (by decide) (by decide)).2, e318_1854, e318_1855 (Nat.le_of_ble_eq_true rfl), g1, zk1 (npc := 1858) rfl, e318_1858 rfl, e318_1860, e318_1861, e318_1862, e318_1864, e318_1865, e318_1866 (hx 1 (by decide) (by decide)).1 (hx 1 (by decide) (by decide)).2, e318_1867 rfl (Nat.le_of_ble_eq_true rfl), y1, zk1 (npc := 1870) rfl, e318_1870 rfl, e318_1872, e318_1873 rfl (Nat.le_of_ble_eq_true rfl), y2, zk1 (npc := 1876) rfl, e318_1876, e318_1878, if_pos rfl, e318_1883, e318_1885, if_neg (by decide), e318_1888, e318_1889, e318_1890 (n := 1) rfl (fun _ => rfl), zg_pos (by decide), e318_1891, e318_1893, show n32 0 = 0 from by decide, e77, n32_id (by omega) (by omega), e318_1894, zm_lcmp_self, e318_1895, if_pos (by decide), e318_1900, e318_1941 rfl, e318_1944]

theorem zJ.mono {m : Int} (h : zJ E p q n) (hm : n ≤ m) : zJ E p q m := by
  obtain ⟨V, U, T, y, im, h1, h2, h3, h4, h5, h6, h7⟩ := h
  exact ⟨V, U, T, y, im, h1, h2, h3, h4, h5, h6, h7.mono hm⟩
theorem KD (hX : ∀ j, -2147483648 ≤ X.2 j ∧ X.2 j < 2147483648) (hx : ∀ c, 0 ≤ c → c ≤ 5 → 0 ≤ n32 (i + c) ∧ n32 (i + c) < X.1) (hn : 0 ≤ n ∧ n ≤ 600) (hJ : zJ E p q n) (hH : zHallP) {a : Int} : ∃ t' p' q' F k5 k6, zf_ev X (d + 21) 318 (40, [vX 1000, vR 0, vR 60, vR 77, vI i, j5, j6], [vI a], zH t p q E) = zf_ev X (d + 21) 318 (23, [vX 1000, vR 0, vR 60, vR 77, vI (i + 6), k5, k6], [], zH t' p' q' F) ∧ zJ F p' q' (n + 1) ∧ (t' = t ∨ t' = t ++ [(30, 6)]) := by
  by_cases g : 0 ≤ n32 a ∧ n32 a ≤ 52
  · obtain ⟨m, hm⟩ : ∃ m : Nat, n32 a = m := ⟨(n32 a).toNat, by omega⟩
    have hm2 : m < 53 := by omega
    match m, hm2, hm with
    | 0, _, hm => rw [e318_40_0 hm]; exact K0 hX hx hn hJ
    | 1, _, hm => rw [e318_40_1 hm]; exact K1 hX hx hn hJ hH
    | 2, _, hm => rw [e318_40_2 hm]; exact K2 hX hx hn hJ
    | 3, _, hm => rw [e318_40_3 hm]; exact K3 hX hx hn hJ
    | 4, _, hm => rw [e318_40_4 hm]; exact K4 hX hx hn hJ
    | 5, _, hm => rw [e318_40_5 hm]; exact K5 hX hx hn hJ
    | 6, _, hm => rw [e318_40_6 hm]; exact K6 hX hx hn hJ
    | 7, _, hm => rw [e318_40_7 hm]; exact K7 hX hx hn hJ
    | 8, _, hm => rw [e318_40_8 hm]; exact K8 hX hx hn hJ
    | 9, _, hm => rw [e318_40_9 hm]; exact K9 hX hx hn hJ
    | 10, _, hm => rw [e318_40_10 hm]; exact K10 hX hx hn hJ
    | 11, _, hm => rw [e318_40_11 hm]; exact K11 hX hx hn hJ
    | 12, _, hm => rw [e318_40_12 hm]; exact K12 hX hx hn hJ
    | 13, _, hm => rw [e318_40_13 hm]; exact K13 hX hx hn hJ
    | 14, _, hm => rw [e318_40_14 hm]; exact K14 hX hx hn hJ
    | 15, _, hm => rw [e318_40_15 hm]; exact K15 hX hx hn hJ
    | 16, _, hm => rw [e318_40_16 hm]; exact K16 hX hx hn hJ
    | 17, _, hm => rw [e318_40_17 hm]; exact K17 hX hx hn hJ
    | 18, _, hm => rw [e318_40_18 hm]; exact K18 hX hx hn hJ
    | 19, _, hm => rw [e318_40_19 hm]; exact K19 hX hx hn hJ
    | 20, _, hm => rw [e318_40_20 hm]; exact K20 hX hx hn hJ
    | 21, _, hm => rw [e318_40_21 hm]; exact K21 hX hx hn hJ
    | 22, _, hm => rw [e318_40_22 hm]; exact K22 hX hx hn hJ
    | 23, _, hm => rw [e318_40_23 hm]; exact K23 hX hx hn hJ
    | 24, _, hm => rw [e318_40_24 hm]; exact K24 hX hx hn hJ
    | 25, _, hm => rw [e318_40_25 hm]; exact K25 hX hx hn hJ
    | 26, _, hm => rw [e318_40_26 hm]; exact K26 hX hx hn hJ
    | 27, _, hm => rw [e318_40_27 hm]; exact K27 hX hx hn hJ
    | 28, _, hm => rw [e318_40_28 hm]; exact K28 hX hx hn hJ
    | 29, _, hm => rw [e318_40_29 hm]; exact K29 hX hx hn hJ
    | 30, _, hm => rw [e318_40_30 hm]; exact K30 hX hx hn hJ
    | 31, _, hm => rw [e318_40_31 hm]; exact K31 hX hx hn hJ
    | 32, _, hm => rw [e318_40_32 hm]; exact K32 hX hx hn hJ
    | 33, _, hm => rw [e318_40_33 hm]; exact K33 hX hx hn hJ
    | 34, _, hm => rw [e318_40_34 hm]; exact K34 hX hx hn hJ
    | 35, _, hm => rw [e318_40_35 hm]; exact K35 hX hx hn hJ
    | 36, _, hm => rw [e318_40_36 hm]; exact K36 hX hx hn hJ
    | 37, _, hm => rw [e318_40_37 hm]; exact K37 hX hx hn hJ
    | 38, _, hm => rw [e318_40_38 hm]; exact K38 hX hx hn hJ
    | 39, _, hm => rw [e318_40_39 hm]; exact K39 hX hx hn hJ
    | 40, _, hm => rw [e318_40_40 hm]; exact K40 hX hx hn hJ
    | 41, _, hm => rw [e318_40_41 hm]; exact K41 hX hx hn hJ
    | 42, _, hm => rw [e318_40_42 hm]; exact K42 hX hx hn hJ
    | 43, _, hm => rw [e318_40_43 hm]; exact K43 hX hx hn hJ
    | 44, _, hm => rw [e318_40_44 hm]; exact K44 hX hx hn hJ
    | 45, _, hm => rw [e318_40_45 hm]; exact K45 hX hx hn hJ
    | 46, _, hm => rw [e318_40_46 hm]; exact K46 hX hx hn hJ
    | 47, _, hm => rw [e318_40_47 hm]; exact K47 hX hx hn hJ
    | 48, _, hm => rw [e318_40_48 hm]; exact K48 hX hx hn hJ
    | 49, _, hm => rw [e318_40_49 hm]; exact K49 hX hx hn hJ
    | 50, _, hm => rw [e318_40_50 hm]; exact K50 hX hx hn hJ
    | 51, _, hm => rw [e318_40_51 hm]; exact K51 hX hx hn hJ
    | 52, _, hm => rw [e318_40_52 hm]; exact K52 hX hx hn hJ
    | m + 53, h, _ => omega
  · rw [e318_40_d (by omega), e318_1941 rfl, e318_1944]
    exact ⟨t, p, q, E, j5, j6, rfl, hJ.mono (by omega), Or.inl rfl⟩
theorem law_loop (hX : ∀ j, -2147483648 ≤ X.2 j ∧ X.2 j < 2147483648) (hL : X.1 ≤ 3072) (hH : zHallP) : ∀ (k : Nat) (i n : Int) (c : Nat) (p q : Nat) (E : Nat → Int → Int) (j5 j6 : ZV), zJ E p q n → i = 6 * n → 0 ≤ n → (X.1 : Int) < i + 6 * k + 6 → n + k ≤ 513 → (c : Int) ≤ n →
    ∃ c' p' q' F, zf_ev X (d + 21) 318 (23, [vX 1000, vR 0, vR 60, vR 77, vI i, j5, j6], [], zH (List.replicate c (30, 6)) p q E) = some (some [vI 1], zH (List.replicate c' (30, 6)) p' q' F) ∧ c' ≤ 600 := by
  intro k
  induction k with
  | zero =>
    intro i n c p q E j5 j6 hJ hi h0 hk hn hc
    refine ⟨c, p, q, E, ?_, by omega⟩
    rw [e318_23, e318_25, e318_26, e318_27, e318_29, e318_30, n32_id (by omega) (by omega), n32_id (by omega) (by omega), if_pos (by omega), e318_1947, e318_1948_l (by decide)]
  | succ k ih =>
    intro i n c p q E j5 j6 hJ hi h0 hk hn hc
    by_cases g : (X.1 : Int) - 6 < i
    · refine ⟨c, p, q, E, ?_, by omega⟩
      rw [e318_23, e318_25, e318_26, e318_27, e318_29, e318_30, n32_id (by omega) (by omega), n32_id (by omega) (by omega), if_pos g, e318_1947, e318_1948_l (by decide)]
    · have hx : ∀ c, 0 ≤ c → c ≤ 5 → 0 ≤ n32 (i + c) ∧ n32 (i + c) < X.1 := fun c a b => by rw [n32_id (by omega) (by omega)]; omega
      have hx0 := hx 0 (by omega) (by omega)
      rw [Int.add_zero] at hx0
      obtain ⟨t', p', q', F, k5, k6, f1, f2, f3⟩ := KD (d := d) (t := List.replicate c (30, 6)) (j5 := j5) (j6 := j6) hX hx (by omega) hJ hH (a := zm_iand (X.2 (n32 i).toNat) 63)
      have ht : ∃ c2 : Nat, t' = List.replicate c2 (30, 6) ∧ (c2 : Int) ≤ n + 1 := by
        rcases f3 with f3 | f3
        · exact ⟨c, f3, by omega⟩
        · exact ⟨c + 1, by rw [f3, List.replicate_succ'], by omega⟩
      obtain ⟨c2, rfl, hc2⟩ := ht
      obtain ⟨c', p2, q2, H, y1, y2⟩ := ih (i + 6) (n + 1) c2 p' q' F k5 k6 f2 (by omega) (by omega) (by omega) (by omega) hc2
      refine ⟨c', p2, q2, H, ?_, y2⟩
      rw [e318_23, e318_25, e318_26, e318_27, e318_29, e318_30, n32_id (by omega) (by omega), n32_id (by omega) (by omega), if_neg g, e318_33, e318_34, e318_36 hx0.1 hx0.2, e318_37, e318_39, f1]
      exact y1
end LW

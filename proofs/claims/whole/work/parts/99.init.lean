/-! the constructors; printed by geninit.py -/
theorem zk0 {X : Nat × (Nat → Int)} {d M pc npc : Nat} {loc st : List ZV} {h : ZH} (hn : pc + 3 = npc) : zf_k X d M pc loc st (some (some [], h)) = zf_ev X d M (npc, loc, st, h) := by
  subst hn
  rfl
section IN
variable {X : Nat × (Nat → Int)} {d : Nat} {D : Nat → Nat → Int}
def dI105_2 (D : Nat → Nat → Int) : Nat → Nat → Int := (zm_up (zm_up (zm_up (zm_up (zm_up (zm_up (zm_up (zm_up (fun a b => if a = 3 then 0 else D a b) 2 0 ((3 : Nat) : Int)) 2 1 (0)) 2 2 (0)) 2 3 (0)) 2 4 (0)) 2 5 (0)) 2 6 (0)) 2 7 (0))
theorem I105_2 : zf_ev X d 105 (0, [vR 2], [], zSh.take 3, D) = some (some [], zSh.take 4, dI105_2 D) := by
  rw [e105_0, e105_1 (Nat.le_of_ble_eq_true rfl), e105_4, e105_5, e105_8 (sh := zSh.take 3) (by decide) (by decide) (by decide +kernel)]
  show zf_ev X _ 105 (10, [vR 2], [vR 3, vR 2], zSh.take 4, _) = _
  rw [e105_10 rfl, e105_13, e105_14, e105_15 rfl, e105_18, e105_19, e105_20 rfl, e105_23, e105_24, e105_25 rfl, e105_28, e105_29, e105_30 rfl, e105_33, e105_34, e105_35 rfl, e105_38, e105_39, e105_40 rfl, e105_43, e105_44, e105_45 rfl, e105_48]
  rfl
def dI76_1 (D : Nat → Nat → Int) : Nat → Nat → Int := (zm_up (zm_up (zm_up (zm_up (zm_up (zm_up (zm_up (zm_up (fun a b => if a = 5 then 0 else (zm_up (fun a b => if a = 4 then 0 else (zm_up (dI105_2 (fun a b => if a = 2 then zm_df (zm_tyF 9 b) else D a b)) 1 0 ((2 : Nat) : Int)) a b) 1 1 ((4 : Nat) : Int)) a b) 1 2 ((5 : Nat) : Int)) 1 3 (0)) 1 4 (0)) 1 5 (0)) 1 6 (0)) 1 7 (0)) 1 8 (0)) 1 9 (-1))
theorem I76_1 : zf_ev X (d + 1) 76 (0, [vR 1], [], zSh.take 2, D) = some (some [], zSh.take 6, dI76_1 D) := by
  rw [e76_0, e76_1 (Nat.le_of_ble_eq_true rfl), e76_4, e76_5 (sh := zSh.take 2) (by decide +kernel)]
  show zf_ev X _ 76 (8, [vR 1], [vR 2, vR 1], zSh.take 3, _) = _
  rw [e76_8_r, e76_9 rfl (Nat.le_of_ble_eq_true rfl)]
  rw [I105_2, zk0 (npc := 12) rfl]
  rw [e76_12 rfl, e76_15, e76_16, e76_18 (sh := zSh.take 4) (by decide) (by decide) (by decide +kernel)]
  show zf_ev X _ 76 (20, [vR 1], [vR 4, vR 1], zSh.take 5, _) = _
  rw [e76_20 rfl, e76_23, e76_24, e76_26 (sh := zSh.take 5) (by decide) (by decide) (by decide +kernel)]
  show zf_ev X _ 76 (28, [vR 1], [vR 5, vR 1], zSh.take 6, _) = _
  rw [e76_28 rfl, e76_31, e76_32, e76_33 rfl, e76_36, e76_37, e76_38 rfl, e76_41, e76_42, e76_43 rfl, e76_46, e76_47, e76_48 rfl, e76_51, e76_52, e76_53 rfl, e76_56, e76_57, e76_58 rfl, e76_61, e76_62, e76_63 rfl, e76_66]
  rfl
def dI57_6 (D : Nat → Nat → Int) : Nat → Nat → Int := (zm_up (zm_up (zm_up (zm_up (fun a b => if a = 8 then 0 else (zm_up (fun a b => if a = 7 then 0 else D a b) 6 0 ((7 : Nat) : Int)) a b) 6 1 ((8 : Nat) : Int)) 6 2 (0)) 6 3 (0)) 6 4 (0))
theorem I57_6 : zf_ev X d 57 (0, [vR 6], [], zSh.take 7, D) = some (some [], zSh.take 9, dI57_6 D) := by
  rw [e57_0, e57_1 (Nat.le_of_ble_eq_true rfl), e57_4, e57_5, e57_8 (sh := zSh.take 7) (by decide) (by decide) (by decide +kernel)]
  show zf_ev X _ 57 (10, [vR 6], [vR 7, vR 6], zSh.take 8, _) = _
  rw [e57_10 rfl, e57_13, e57_14, e57_16 (sh := zSh.take 8) (by decide) (by decide) (by decide +kernel)]
  show zf_ev X _ 57 (18, [vR 6], [vR 8, vR 6], zSh.take 9, _) = _
  rw [e57_18 rfl, e57_21, e57_22, e57_23 rfl, e57_26, e57_27, e57_28 rfl, e57_31, e57_32, e57_33 rfl, e57_36]
  rfl
def dI0_10 (D : Nat → Nat → Int) : Nat → Nat → Int := (zm_up (fun a b => if a = 11 then 0 else D a b) 10 0 ((11 : Nat) : Int))
theorem I0_10 : zf_ev X d 0 (0, [vR 10], [], zSh.take 11, D) = some (some [], zSh.take 12, dI0_10 D) := by
  rw [e0_0, e0_1 (Nat.le_of_ble_eq_true rfl), e0_4, e0_5, e0_7 (sh := zSh.take 11) (by decide) (by decide) (by decide +kernel)]
  show zf_ev X _ 0 (9, [vR 10], [vR 11, vR 10], zSh.take 12, _) = _
  rw [e0_9 rfl, e0_12]
  rfl
def dI47_9 (D : Nat → Nat → Int) : Nat → Nat → Int := (zm_up (zm_up (zm_up (zm_up (fun a b => if a = 14 then 0 else (zm_up (fun a b => if a = 13 then 0 else (zm_up (fun a b => if a = 12 then 0 else (zm_up (dI0_10 (fun a b => if a = 10 then zm_df (zm_tyF 0 b) else D a b)) 9 0 ((10 : Nat) : Int)) a b) 9 1 ((12 : Nat) : Int)) a b) 9 2 ((13 : Nat) : Int)) a b) 9 3 ((14 : Nat) : Int)) 9 4 (0)) 9 5 (0)) 9 6 (0))
theorem I47_9 : zf_ev X (d + 1) 47 (0, [vR 9], [], zSh.take 10, D) = some (some [], zSh.take 15, dI47_9 D) := by
  rw [e47_0, e47_1 (Nat.le_of_ble_eq_true rfl), e47_4, e47_5 (sh := zSh.take 10) (by decide +kernel)]
  show zf_ev X _ 47 (8, [vR 9], [vR 10, vR 9], zSh.take 11, _) = _
  rw [e47_8_r, e47_9 rfl (Nat.le_of_ble_eq_true rfl)]
  rw [I0_10, zk0 (npc := 12) rfl]
  rw [e47_12 rfl, e47_15, e47_16, e47_17 (sh := zSh.take 12) (by decide) (by decide) (by decide +kernel)]
  show zf_ev X _ 47 (19, [vR 9], [vR 12, vR 9], zSh.take 13, _) = _
  rw [e47_19 rfl, e47_22, e47_23, e47_24 (sh := zSh.take 13) (by decide) (by decide) (by decide +kernel)]
  show zf_ev X _ 47 (26, [vR 9], [vR 13, vR 9], zSh.take 14, _) = _
  rw [e47_26 rfl, e47_29, e47_30, e47_32 (sh := zSh.take 14) (by decide) (by decide) (by decide +kernel)]
  show zf_ev X _ 47 (34, [vR 9], [vR 14, vR 9], zSh.take 15, _) = _
  rw [e47_34 rfl, e47_37, e47_38, e47_39 rfl, e47_42, e47_43, e47_44 rfl, e47_47, e47_48, e47_49 rfl, e47_52]
  rfl
def dI64_15 (D : Nat → Nat → Int) : Nat → Nat → Int := (zm_up (zm_up (zm_up (zm_up (zm_up (zm_up (zm_up (zm_up (fun a b => if a = 20 then 0 else (zm_up (fun a b => if a = 19 then 0 else (zm_up (fun a b => if a = 18 then 0 else (zm_up (fun a b => if a = 17 then 0 else (zm_up (fun a b => if a = 16 then 0 else D a b) 15 0 ((16 : Nat) : Int)) a b) 15 1 ((17 : Nat) : Int)) a b) 15 2 ((18 : Nat) : Int)) a b) 15 3 ((19 : Nat) : Int)) a b) 15 4 ((20 : Nat) : Int)) 15 5 (0)) 15 6 (0)) 15 7 (0)) 15 8 (0)) 15 9 (0)) 15 10 (0)) 15 11 (-2))
theorem I64_15 : zf_ev X d 64 (0, [vR 15], [], zSh.take 16, D) = some (some [], zSh.take 21, dI64_15 D) := by
  rw [e64_0, e64_1 (Nat.le_of_ble_eq_true rfl), e64_4, e64_5, e64_7 (sh := zSh.take 16) (by decide) (by decide) (by decide +kernel)]
  show zf_ev X _ 64 (9, [vR 15], [vR 16, vR 15], zSh.take 17, _) = _
  rw [e64_9 rfl, e64_12, e64_13, e64_15 (sh := zSh.take 17) (by decide) (by decide) (by decide +kernel)]
  show zf_ev X _ 64 (17, [vR 15], [vR 17, vR 15], zSh.take 18, _) = _
  rw [e64_17 rfl, e64_20, e64_21, e64_23 (sh := zSh.take 18) (by decide) (by decide) (by decide +kernel)]
  show zf_ev X _ 64 (25, [vR 15], [vR 18, vR 15], zSh.take 19, _) = _
  rw [e64_25 rfl, e64_28, e64_29, e64_32 (sh := zSh.take 19) (by decide) (by decide) (by decide +kernel)]
  show zf_ev X _ 64 (34, [vR 15], [vR 19, vR 15], zSh.take 20, _) = _
  rw [e64_34 rfl, e64_37, e64_38, e64_41 (sh := zSh.take 20) (by decide) (by decide) (by decide +kernel)]
  show zf_ev X _ 64 (43, [vR 15], [vR 20, vR 15], zSh.take 21, _) = _
  rw [e64_43 rfl, e64_46, e64_47, e64_48 rfl, e64_51, e64_52, e64_53 rfl, e64_56, e64_57, e64_58 rfl, e64_61, e64_62, e64_63 rfl, e64_66, e64_67, e64_68 rfl, e64_71, e64_72, e64_73 rfl, e64_76, e64_77, e64_79 rfl, e64_82]
  rfl
def dI9_21 (D : Nat → Nat → Int) : Nat → Nat → Int := (zm_up (zm_up (zm_up (zm_up (zm_up (zm_up (fun a b => if a = 27 then 0 else (zm_up (fun a b => if a = 26 then 0 else (zm_up (fun a b => if a = 25 then 0 else (zm_up (fun a b => if a = 24 then 0 else (zm_up (fun a b => if a = 23 then 0 else (zm_up (fun a b => if a = 22 then 0 else D a b) 21 0 ((22 : Nat) : Int)) a b) 21 1 ((23 : Nat) : Int)) a b) 21 2 ((24 : Nat) : Int)) a b) 21 3 ((25 : Nat) : Int)) a b) 21 4 ((26 : Nat) : Int)) a b) 21 5 ((27 : Nat) : Int)) 21 6 (0)) 21 7 (0)) 21 8 (0)) 21 9 (0)) 21 10 (0))
theorem I9_21 : zf_ev X d 9 (0, [vR 21], [], zSh.take 22, D) = some (some [], zSh.take 28, dI9_21 D) := by
  rw [e9_0, e9_1 (Nat.le_of_ble_eq_true rfl), e9_4, e9_5, e9_7 (sh := zSh.take 22) (by decide) (by decide) (by decide +kernel)]
  show zf_ev X _ 9 (9, [vR 21], [vR 22, vR 21], zSh.take 23, _) = _
  rw [e9_9 rfl, e9_12, e9_13, e9_15 (sh := zSh.take 23) (by decide) (by decide) (by decide +kernel)]
  show zf_ev X _ 9 (17, [vR 21], [vR 23, vR 21], zSh.take 24, _) = _
  rw [e9_17 rfl, e9_20, e9_21, e9_23 (sh := zSh.take 24) (by decide) (by decide) (by decide +kernel)]
  show zf_ev X _ 9 (25, [vR 21], [vR 24, vR 21], zSh.take 25, _) = _
  rw [e9_25 rfl, e9_28, e9_29, e9_31 (sh := zSh.take 25) (by decide) (by decide) (by decide +kernel)]
  show zf_ev X _ 9 (33, [vR 21], [vR 25, vR 21], zSh.take 26, _) = _
  rw [e9_33 rfl, e9_36, e9_37, e9_39 (sh := zSh.take 26) (by decide) (by decide) (by decide +kernel)]
  show zf_ev X _ 9 (41, [vR 21], [vR 26, vR 21], zSh.take 27, _) = _
  rw [e9_41 rfl, e9_44, e9_45, e9_47 (sh := zSh.take 27) (by decide) (by decide) (by decide +kernel)]
  show zf_ev X _ 9 (49, [vR 21], [vR 27, vR 21], zSh.take 28, _) = _
  rw [e9_49 rfl, e9_52, e9_53, e9_54 rfl, e9_57, e9_58, e9_59 rfl, e9_62, e9_63, e9_64 rfl, e9_67, e9_68, e9_69 rfl, e9_72, e9_73, e9_74 rfl, e9_77]
  rfl
def dI97_28 (D : Nat → Nat → Int) : Nat → Nat → Int := (zm_up (fun a b => if a = 32 then 0 else (zm_up (fun a b => if a = 31 then 0 else (zm_up (fun a b => if a = 30 then 0 else (zm_up (fun a b => if a = 29 then 0 else D a b) 28 0 ((29 : Nat) : Int)) a b) 28 1 ((30 : Nat) : Int)) a b) 28 2 ((31 : Nat) : Int)) a b) 28 3 ((32 : Nat) : Int))
theorem I97_28 : zf_ev X d 97 (0, [vR 28], [], zSh.take 29, D) = some (some [], zSh.take 33, dI97_28 D) := by
  rw [e97_0, e97_1 (Nat.le_of_ble_eq_true rfl), e97_4, e97_5, e97_7 (sh := zSh.take 29) (by decide) (by decide) (by decide +kernel)]
  show zf_ev X _ 97 (9, [vR 28], [vR 29, vR 28], zSh.take 30, _) = _
  rw [e97_9 rfl, e97_12, e97_13, e97_14 (sh := zSh.take 30) (by decide) (by decide) (by decide +kernel)]
  show zf_ev X _ 97 (16, [vR 28], [vR 30, vR 28], zSh.take 31, _) = _
  rw [e97_16 rfl, e97_19, e97_20, e97_22 (sh := zSh.take 31) (by decide) (by decide) (by decide +kernel)]
  show zf_ev X _ 97 (24, [vR 28], [vR 31, vR 28], zSh.take 32, _) = _
  rw [e97_24 rfl, e97_27, e97_28, e97_30 (sh := zSh.take 32) (by decide) (by decide) (by decide +kernel)]
  show zf_ev X _ 97 (32, [vR 28], [vR 32, vR 28], zSh.take 33, _) = _
  rw [e97_32 rfl, e97_35]
  rfl
def dI0_34 (D : Nat → Nat → Int) : Nat → Nat → Int := (zm_up (fun a b => if a = 35 then 0 else D a b) 34 0 ((35 : Nat) : Int))
theorem I0_34 : zf_ev X d 0 (0, [vR 34], [], zSh.take 35, D) = some (some [], zSh.take 36, dI0_34 D) := by
  rw [e0_0, e0_1 (Nat.le_of_ble_eq_true rfl), e0_4, e0_5, e0_7 (sh := zSh.take 35) (by decide) (by decide) (by decide +kernel)]
  show zf_ev X _ 0 (9, [vR 34], [vR 35, vR 34], zSh.take 36, _) = _
  rw [e0_9 rfl, e0_12]
  rfl
def dI3_33 (D : Nat → Nat → Int) : Nat → Nat → Int := (zm_up (zm_up (zm_up (fun a b => if a = 39 then 0 else (zm_up (fun a b => if a = 38 then 0 else (zm_up (fun a b => if a = 37 then 0 else (zm_up (fun a b => if a = 36 then 0 else (zm_up (dI0_34 (fun a b => if a = 34 then zm_df (zm_tyF 0 b) else D a b)) 33 0 ((34 : Nat) : Int)) a b) 33 1 ((36 : Nat) : Int)) a b) 33 2 ((37 : Nat) : Int)) a b) 33 3 ((38 : Nat) : Int)) a b) 33 4 ((39 : Nat) : Int)) 33 5 (0)) 33 6 (0))
theorem I3_33 : zf_ev X (d + 1) 3 (0, [vR 33], [], zSh.take 34, D) = some (some [], zSh.take 40, dI3_33 D) := by
  rw [e3_0, e3_1 (Nat.le_of_ble_eq_true rfl), e3_4, e3_5 (sh := zSh.take 34) (by decide +kernel)]
  show zf_ev X _ 3 (8, [vR 33], [vR 34, vR 33], zSh.take 35, _) = _
  rw [e3_8_r, e3_9 rfl (Nat.le_of_ble_eq_true rfl)]
  rw [I0_34, zk0 (npc := 12) rfl]
  rw [e3_12 rfl, e3_15, e3_16, e3_17 (sh := zSh.take 36) (by decide) (by decide) (by decide +kernel)]
  show zf_ev X _ 3 (19, [vR 33], [vR 36, vR 33], zSh.take 37, _) = _
  rw [e3_19 rfl, e3_22, e3_23, e3_25 (sh := zSh.take 37) (by decide) (by decide) (by decide +kernel)]
  show zf_ev X _ 3 (27, [vR 33], [vR 37, vR 33], zSh.take 38, _) = _
  rw [e3_27 rfl, e3_30, e3_31, e3_32 (sh := zSh.take 38) (by decide) (by decide) (by decide +kernel)]
  show zf_ev X _ 3 (34, [vR 33], [vR 38, vR 33], zSh.take 39, _) = _
  rw [e3_34 rfl, e3_37, e3_38, e3_40 (sh := zSh.take 39) (by decide) (by decide) (by decide +kernel)]
  show zf_ev X _ 3 (42, [vR 33], [vR 39, vR 33], zSh.take 40, _) = _
  rw [e3_42 rfl, e3_45, e3_46, e3_47 rfl, e3_50, e3_51, e3_52 rfl, e3_55]
  rfl
def dI19_40 (D : Nat → Nat → Int) : Nat → Nat → Int := (zm_up (zm_up (zm_up (zm_up (zm_up (zm_up (zm_up (zm_up (fun a b => if a = 49 then 0 else (zm_up (fun a b => if a = 48 then 0 else (zm_up (fun a b => if a = 47 then 0 else (zm_up (fun a b => if a = 46 then 0 else (zm_up (fun a b => if a = 45 then 0 else (zm_up (fun a b => if a = 44 then 0 else (zm_up (fun a b => if a = 43 then 0 else (zm_up (fun a b => if a = 42 then 0 else (zm_up (fun a b => if a = 41 then 0 else D a b) 40 0 ((41 : Nat) : Int)) a b) 40 1 ((42 : Nat) : Int)) a b) 40 2 ((43 : Nat) : Int)) a b) 40 3 ((44 : Nat) : Int)) a b) 40 4 ((45 : Nat) : Int)) a b) 40 5 ((46 : Nat) : Int)) a b) 40 6 ((47 : Nat) : Int)) a b) 40 7 ((48 : Nat) : Int)) a b) 40 8 ((49 : Nat) : Int)) 40 9 (0)) 40 10 (0)) 40 11 (0)) 40 12 (0)) 40 13 (0)) 40 14 (0)) 40 15 (0))
theorem I19_40 : zf_ev X d 19 (0, [vR 40], [], zSh.take 41, D) = some (some [], zSh.take 50, dI19_40 D) := by
  rw [e19_0, e19_1 (Nat.le_of_ble_eq_true rfl), e19_4, e19_5, e19_7 (sh := zSh.take 41) (by decide) (by decide) (by decide +kernel)]
  show zf_ev X _ 19 (9, [vR 40], [vR 41, vR 40], zSh.take 42, _) = _
  rw [e19_9 rfl, e19_12, e19_13, e19_15 (sh := zSh.take 42) (by decide) (by decide) (by decide +kernel)]
  show zf_ev X _ 19 (17, [vR 40], [vR 42, vR 40], zSh.take 43, _) = _
  rw [e19_17 rfl, e19_20, e19_21, e19_23 (sh := zSh.take 43) (by decide) (by decide) (by decide +kernel)]
  show zf_ev X _ 19 (25, [vR 40], [vR 43, vR 40], zSh.take 44, _) = _
  rw [e19_25 rfl, e19_28, e19_29, e19_30 (sh := zSh.take 44) (by decide) (by decide) (by decide +kernel)]
  show zf_ev X _ 19 (32, [vR 40], [vR 44, vR 40], zSh.take 45, _) = _
  rw [e19_32 rfl, e19_35, e19_36, e19_37 (sh := zSh.take 45) (by decide) (by decide) (by decide +kernel)]
  show zf_ev X _ 19 (39, [vR 40], [vR 45, vR 40], zSh.take 46, _) = _
  rw [e19_39 rfl, e19_42, e19_43, e19_44 (sh := zSh.take 46) (by decide) (by decide) (by decide +kernel)]
  show zf_ev X _ 19 (46, [vR 40], [vR 46, vR 40], zSh.take 47, _) = _
  rw [e19_46 rfl, e19_49, e19_50, e19_51 (sh := zSh.take 47) (by decide) (by decide) (by decide +kernel)]
  show zf_ev X _ 19 (53, [vR 40], [vR 47, vR 40], zSh.take 48, _) = _
  rw [e19_53 rfl, e19_56, e19_57, e19_58 (sh := zSh.take 48) (by decide) (by decide) (by decide +kernel)]
  show zf_ev X _ 19 (60, [vR 40], [vR 48, vR 40], zSh.take 49, _) = _
  rw [e19_60 rfl, e19_63, e19_64, e19_65 (sh := zSh.take 49) (by decide) (by decide) (by decide +kernel)]
  show zf_ev X _ 19 (67, [vR 40], [vR 49, vR 40], zSh.take 50, _) = _
  rw [e19_67 rfl, e19_70, e19_71, e19_72 rfl, e19_75, e19_76, e19_77 rfl, e19_80, e19_81, e19_82 rfl, e19_85, e19_86, e19_87 rfl, e19_90, e19_91, e19_92 rfl, e19_95, e19_96, e19_97 rfl, e19_100, e19_101, e19_102 rfl, e19_105]
  rfl
def dI19_50 (D : Nat → Nat → Int) : Nat → Nat → Int := (zm_up (zm_up (zm_up (zm_up (zm_up (zm_up (zm_up (zm_up (fun a b => if a = 59 then 0 else (zm_up (fun a b => if a = 58 then 0 else (zm_up (fun a b => if a = 57 then 0 else (zm_up (fun a b => if a = 56 then 0 else (zm_up (fun a b => if a = 55 then 0 else (zm_up (fun a b => if a = 54 then 0 else (zm_up (fun a b => if a = 53 then 0 else (zm_up (fun a b => if a = 52 then 0 else (zm_up (fun a b => if a = 51 then 0 else D a b) 50 0 ((51 : Nat) : Int)) a b) 50 1 ((52 : Nat) : Int)) a b) 50 2 ((53 : Nat) : Int)) a b) 50 3 ((54 : Nat) : Int)) a b) 50 4 ((55 : Nat) : Int)) a b) 50 5 ((56 : Nat) : Int)) a b) 50 6 ((57 : Nat) : Int)) a b) 50 7 ((58 : Nat) : Int)) a b) 50 8 ((59 : Nat) : Int)) 50 9 (0)) 50 10 (0)) 50 11 (0)) 50 12 (0)) 50 13 (0)) 50 14 (0)) 50 15 (0))
theorem I19_50 : zf_ev X d 19 (0, [vR 50], [], zSh.take 51, D) = some (some [], zSh.take 60, dI19_50 D) := by
  rw [e19_0, e19_1 (Nat.le_of_ble_eq_true rfl), e19_4, e19_5, e19_7 (sh := zSh.take 51) (by decide) (by decide) (by decide +kernel)]
  show zf_ev X _ 19 (9, [vR 50], [vR 51, vR 50], zSh.take 52, _) = _
  rw [e19_9 rfl, e19_12, e19_13, e19_15 (sh := zSh.take 52) (by decide) (by decide) (by decide +kernel)]
  show zf_ev X _ 19 (17, [vR 50], [vR 52, vR 50], zSh.take 53, _) = _
  rw [e19_17 rfl, e19_20, e19_21, e19_23 (sh := zSh.take 53) (by decide) (by decide) (by decide +kernel)]
  show zf_ev X _ 19 (25, [vR 50], [vR 53, vR 50], zSh.take 54, _) = _
  rw [e19_25 rfl, e19_28, e19_29, e19_30 (sh := zSh.take 54) (by decide) (by decide) (by decide +kernel)]
  show zf_ev X _ 19 (32, [vR 50], [vR 54, vR 50], zSh.take 55, _) = _
  rw [e19_32 rfl, e19_35, e19_36, e19_37 (sh := zSh.take 55) (by decide) (by decide) (by decide +kernel)]
  show zf_ev X _ 19 (39, [vR 50], [vR 55, vR 50], zSh.take 56, _) = _
  rw [e19_39 rfl, e19_42, e19_43, e19_44 (sh := zSh.take 56) (by decide) (by decide) (by decide +kernel)]
  show zf_ev X _ 19 (46, [vR 50], [vR 56, vR 50], zSh.take 57, _) = _
  rw [e19_46 rfl, e19_49, e19_50, e19_51 (sh := zSh.take 57) (by decide) (by decide) (by decide +kernel)]
  show zf_ev X _ 19 (53, [vR 50], [vR 57, vR 50], zSh.take 58, _) = _
  rw [e19_53 rfl, e19_56, e19_57, e19_58 (sh := zSh.take 58) (by decide) (by decide) (by decide +kernel)]
  show zf_ev X _ 19 (60, [vR 50], [vR 58, vR 50], zSh.take 59, _) = _
  rw [e19_60 rfl, e19_63, e19_64, e19_65 (sh := zSh.take 59) (by decide) (by decide) (by decide +kernel)]
  show zf_ev X _ 19 (67, [vR 50], [vR 59, vR 50], zSh.take 60, _) = _
  rw [e19_67 rfl, e19_70, e19_71, e19_72 rfl, e19_75, e19_76, e19_77 rfl, e19_80, e19_81, e19_82 rfl, e19_85, e19_86, e19_87 rfl, e19_90, e19_91, e19_92 rfl, e19_95, e19_96, e19_97 rfl, e19_100, e19_101, e19_102 rfl, e19_105]
  rfl
def dI113_0 (D : Nat → Nat → Int) : Nat → Nat → Int := (zm_up (zm_up (zm_up (zm_up (dI19_50 (fun a b => if a = 50 then zm_df (zm_tyF 3 b) else (zm_up (dI19_40 (fun a b => if a = 40 then zm_df (zm_tyF 3 b) else (zm_up (dI3_33 (fun a b => if a = 33 then zm_df (zm_tyF 1 b) else (zm_up (dI97_28 (fun a b => if a = 28 then zm_df (zm_tyF 8 b) else (zm_up (dI9_21 (fun a b => if a = 21 then zm_df (zm_tyF 2 b) else (zm_up (dI64_15 (fun a b => if a = 15 then zm_df (zm_tyF 6 b) else (zm_up (dI47_9 (fun a b => if a = 9 then zm_df (zm_tyF 4 b) else (zm_up (dI57_6 (fun a b => if a = 6 then zm_df (zm_tyF 5 b) else (zm_up (zm_up (dI76_1 (fun a b => if a = 1 then zm_df (zm_tyF 7 b) else D a b)) 0 1 ((1 : Nat) : Int)) 0 0 ((2 : Nat) : Int)) a b)) 0 2 ((6 : Nat) : Int)) a b)) 0 3 ((9 : Nat) : Int)) a b)) 0 4 ((15 : Nat) : Int)) a b)) 0 5 ((21 : Nat) : Int)) a b)) 0 6 ((28 : Nat) : Int)) a b)) 0 7 ((33 : Nat) : Int)) a b)) 0 8 ((40 : Nat) : Int)) a b)) 0 9 ((50 : Nat) : Int)) 0 10 (0)) 0 11 (0)) 0 12 (-1))
theorem I113_0 : zf_ev X (d + 2) 113 (0, [vR 0], [], zSh.take 1, D) = some (some [], zSh.take 60, dI113_0 D) := by
  rw [e113_0, e113_1 (Nat.le_of_ble_eq_true rfl), e113_4, e113_5 (sh := zSh.take 1) (by decide +kernel)]
  show zf_ev X _ 113 (8, [vR 0], [vR 1, vR 0], zSh.take 2, _) = _
  rw [e113_8_r, e113_9 rfl (Nat.le_of_ble_eq_true rfl)]
  rw [I76_1, zk0 (npc := 12) rfl]
  rw [e113_12 rfl, e113_15, e113_16]
  rw [e113_17 (o := 0) rfl]
  show zf_ev X _ 113 (20, [vR 0], [vR 1, vR 0], zSh.take 6, _) = _
  rw [e113_20 (o := 1) rfl]
  show zf_ev X _ 113 (23, [vR 0], [vR 2, vR 0], zSh.take 6, _) = _
  rw [e113_23 rfl, e113_26, e113_27 (sh := zSh.take 6) (by decide +kernel)]
  show zf_ev X _ 113 (30, [vR 0], [vR 6, vR 0], zSh.take 7, _) = _
  rw [e113_30_r, e113_31 rfl (Nat.le_of_ble_eq_true rfl)]
  rw [I57_6, zk0 (npc := 34) rfl]
  rw [e113_34 rfl, e113_37, e113_38 (sh := zSh.take 9) (by decide +kernel)]
  show zf_ev X _ 113 (41, [vR 0], [vR 9, vR 0], zSh.take 10, _) = _
  rw [e113_41_r, e113_42 rfl (Nat.le_of_ble_eq_true rfl)]
  rw [I47_9, zk0 (npc := 45) rfl]
  rw [e113_45 rfl, e113_48, e113_49 (sh := zSh.take 15) (by decide +kernel)]
  show zf_ev X _ 113 (52, [vR 0], [vR 15, vR 0], zSh.take 16, _) = _
  rw [e113_52_r, e113_53 rfl (Nat.le_of_ble_eq_true rfl)]
  rw [I64_15, zk0 (npc := 56) rfl]
  rw [e113_56 rfl, e113_59, e113_60 (sh := zSh.take 21) (by decide +kernel)]
  show zf_ev X _ 113 (63, [vR 0], [vR 21, vR 0], zSh.take 22, _) = _
  rw [e113_63_r, e113_64 rfl (Nat.le_of_ble_eq_true rfl)]
  rw [I9_21, zk0 (npc := 67) rfl]
  rw [e113_67 rfl, e113_70, e113_71 (sh := zSh.take 28) (by decide +kernel)]
  show zf_ev X _ 113 (74, [vR 0], [vR 28, vR 0], zSh.take 29, _) = _
  rw [e113_74_r, e113_75 rfl (Nat.le_of_ble_eq_true rfl)]
  rw [I97_28, zk0 (npc := 78) rfl]
  rw [e113_78 rfl, e113_81, e113_82 (sh := zSh.take 33) (by decide +kernel)]
  show zf_ev X _ 113 (85, [vR 0], [vR 33, vR 0], zSh.take 34, _) = _
  rw [e113_85_r, e113_86 rfl (Nat.le_of_ble_eq_true rfl)]
  rw [I3_33, zk0 (npc := 89) rfl]
  rw [e113_89 rfl, e113_92, e113_93 (sh := zSh.take 40) (by decide +kernel)]
  show zf_ev X _ 113 (96, [vR 0], [vR 40, vR 0], zSh.take 41, _) = _
  rw [e113_96_r, e113_97 rfl (Nat.le_of_ble_eq_true rfl)]
  rw [I19_40, zk0 (npc := 100) rfl]
  rw [e113_100 rfl, e113_103, e113_104 (sh := zSh.take 50) (by decide +kernel)]
  show zf_ev X _ 113 (107, [vR 0], [vR 50, vR 0], zSh.take 51, _) = _
  rw [e113_107_r, e113_108 rfl (Nat.le_of_ble_eq_true rfl)]
  rw [I19_50, zk0 (npc := 111) rfl]
  rw [e113_111 rfl, e113_114, e113_115, e113_116 rfl, e113_119, e113_120, e113_121 rfl, e113_124, e113_125, e113_126 rfl, e113_129]
  rfl
def dI175_60 (D : Nat → Nat → Int) : Nat → Nat → Int := (zm_up (fun a b => if a = 76 then 0 else (zm_up (fun a b => if a = 75 then 0 else (zm_up (fun a b => if a = 74 then 0 else (zm_up (fun a b => if a = 73 then 0 else (zm_up (fun a b => if a = 72 then 0 else (zm_up (fun a b => if a = 71 then 0 else (zm_up (fun a b => if a = 70 then 0 else (zm_up (fun a b => if a = 69 then 0 else (zm_up (fun a b => if a = 68 then 0 else (zm_up (fun a b => if a = 67 then 0 else (zm_up (fun a b => if a = 66 then 0 else (zm_up (fun a b => if a = 65 then 0 else (zm_up (fun a b => if a = 64 then 0 else (zm_up (fun a b => if a = 63 then 0 else (zm_up (fun a b => if a = 62 then 0 else (zm_up (zm_up (fun a b => if a = 61 then 0 else D a b) 60 1 ((61 : Nat) : Int)) 60 10 (-1)) a b) 60 12 ((62 : Nat) : Int)) a b) 60 15 ((63 : Nat) : Int)) a b) 60 16 ((64 : Nat) : Int)) a b) 60 17 ((65 : Nat) : Int)) a b) 60 18 ((66 : Nat) : Int)) a b) 60 19 ((67 : Nat) : Int)) a b) 60 22 ((68 : Nat) : Int)) a b) 60 23 ((69 : Nat) : Int)) a b) 60 24 ((70 : Nat) : Int)) a b) 60 25 ((71 : Nat) : Int)) a b) 60 27 ((72 : Nat) : Int)) a b) 60 30 ((73 : Nat) : Int)) a b) 60 31 ((74 : Nat) : Int)) a b) 60 33 ((75 : Nat) : Int)) a b) 60 36 ((76 : Nat) : Int))
theorem I175_60 : zf_ev X d 175 (0, [vR 60], [], zSh.take 61, D) = some (some [], zSh.take 77, dI175_60 D) := by
  rw [e175_0, e175_1 (Nat.le_of_ble_eq_true rfl), e175_4, e175_5, e175_8 (sh := zSh.take 61) (by decide) (by decide) (by decide +kernel)]
  show zf_ev X _ 175 (10, [vR 60], [vR 61, vR 60], zSh.take 62, _) = _
  rw [e175_10 rfl, e175_13, e175_14, e175_15 rfl, e175_18, e175_19, e175_21 (sh := zSh.take 62) (by decide) (by decide) (by decide +kernel)]
  show zf_ev X _ 175 (23, [vR 60], [vR 62, vR 60], zSh.take 63, _) = _
  rw [e175_23 rfl, e175_26, e175_27, e175_30 (sh := zSh.take 63) (by decide) (by decide) (by decide +kernel)]
  show zf_ev X _ 175 (32, [vR 60], [vR 63, vR 60], zSh.take 64, _) = _
  rw [e175_32 rfl, e175_35, e175_36, e175_39 (sh := zSh.take 64) (by decide) (by decide) (by decide +kernel)]
  show zf_ev X _ 175 (41, [vR 60], [vR 64, vR 60], zSh.take 65, _) = _
  rw [e175_41 rfl, e175_44, e175_45, e175_47 (sh := zSh.take 65) (by decide) (by decide) (by decide +kernel)]
  show zf_ev X _ 175 (49, [vR 60], [vR 65, vR 60], zSh.take 66, _) = _
  rw [e175_49 rfl, e175_52, e175_53, e175_56 (sh := zSh.take 66) (by decide) (by decide) (by decide +kernel)]
  show zf_ev X _ 175 (58, [vR 60], [vR 66, vR 60], zSh.take 67, _) = _
  rw [e175_58 rfl, e175_61, e175_62, e175_64 (sh := zSh.take 67) (by decide) (by decide) (by decide +kernel)]
  show zf_ev X _ 175 (66, [vR 60], [vR 67, vR 60], zSh.take 68, _) = _
  rw [e175_66 rfl, e175_69, e175_70, e175_72 (sh := zSh.take 68) (by decide) (by decide) (by decide +kernel)]
  show zf_ev X _ 175 (74, [vR 60], [vR 68, vR 60], zSh.take 69, _) = _
  rw [e175_74 rfl, e175_77, e175_78, e175_80 (sh := zSh.take 69) (by decide) (by decide) (by decide +kernel)]
  show zf_ev X _ 175 (82, [vR 60], [vR 69, vR 60], zSh.take 70, _) = _
  rw [e175_82 rfl, e175_85, e175_86, e175_87 (sh := zSh.take 70) (by decide) (by decide) (by decide +kernel)]
  show zf_ev X _ 175 (89, [vR 60], [vR 70, vR 60], zSh.take 71, _) = _
  rw [e175_89 rfl, e175_92, e175_93, e175_95 (sh := zSh.take 71) (by decide) (by decide) (by decide +kernel)]
  show zf_ev X _ 175 (97, [vR 60], [vR 71, vR 60], zSh.take 72, _) = _
  rw [e175_97 rfl, e175_100, e175_101, e175_103 (sh := zSh.take 72) (by decide) (by decide) (by decide +kernel)]
  show zf_ev X _ 175 (105, [vR 60], [vR 72, vR 60], zSh.take 73, _) = _
  rw [e175_105 rfl, e175_108, e175_109, e175_112 (sh := zSh.take 73) (by decide) (by decide) (by decide +kernel)]
  show zf_ev X _ 175 (114, [vR 60], [vR 73, vR 60], zSh.take 74, _) = _
  rw [e175_114 rfl, e175_117, e175_118, e175_121 (sh := zSh.take 74) (by decide) (by decide) (by decide +kernel)]
  show zf_ev X _ 175 (123, [vR 60], [vR 74, vR 60], zSh.take 75, _) = _
  rw [e175_123 rfl, e175_126, e175_127, e175_129 (sh := zSh.take 75) (by decide) (by decide) (by decide +kernel)]
  show zf_ev X _ 175 (131, [vR 60], [vR 75, vR 60], zSh.take 76, _) = _
  rw [e175_131 rfl, e175_134, e175_135, e175_137 (sh := zSh.take 76) (by decide) (by decide) (by decide +kernel)]
  show zf_ev X _ 175 (139, [vR 60], [vR 76, vR 60], zSh.take 77, _) = _
  rw [e175_139 rfl, e175_142]
  rfl
def zD0 : Nat → Nat → Int := (fun a b => if a = 77 then 0 else (dI175_60 (fun a b => if a = 60 then zm_df (zm_tyF 11 b) else (dI113_0 (fun a b => if a = 0 then zm_df (zm_tyF 10 b) else (fun _ _ => 0) a b)) a b)) a b)
theorem law_pro : zf_ev X (d + 21) 318 (0, [vX 1000, vJ, vJ, vJ, vJ, vJ, vJ], [], [], fun _ _ => 0) = zf_ev X (d + 21) 318 (23, [vX 1000, vR 0, vR 60, vR 77, vI 0, vJ, vJ], [], zSh, zD0) := by
  show zf_ev X (d + 21) 318 (0, [vX 1000, vJ, vJ, vJ, vJ, vJ, vJ], [], zSh.take 0, fun _ _ => 0) = _
  rw [e318_0 (sh := zSh.take 0) (by decide +kernel)]
  show zf_ev X _ 318 (3, [vX 1000, vJ, vJ, vJ, vJ, vJ, vJ], [vR 0], zSh.take 1, _) = _
  rw [e318_3_r, e318_4 rfl (Nat.le_of_ble_eq_true rfl)]
  rw [I113_0, zk0 (npc := 7) rfl]
  rw [e318_7 rfl, e318_8 (sh := zSh.take 60) (by decide +kernel)]
  show zf_ev X _ 318 (11, [vX 1000, vR 0, vJ, vJ, vJ, vJ, vJ], [vR 60], zSh.take 61, _) = _
  rw [e318_11_r, e318_12 rfl (Nat.le_of_ble_eq_true rfl)]
  rw [I175_60, zk0 (npc := 15) rfl]
  rw [e318_15 rfl, e318_16, e318_17 (sh := zSh.take 77) (by decide) (by decide) (by decide +kernel)]
  show zf_ev X _ 318 (19, [vX 1000, vR 0, vR 60, vJ, vJ, vJ, vJ], [vR 77], zSh.take 78, _) = _
  rw [e318_19 rfl, e318_20, e318_21 rfl]
  rfl
end IN

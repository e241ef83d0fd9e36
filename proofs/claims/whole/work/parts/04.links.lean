abbrev zm_LK : Type := Nat × Nat × Nat × MethodName
def zm_okL (own : String) (e : zm_LK) : Prop := Cond.methodLink own e.1 e.2.2.2 ∈ zm_TW ∧ (e.2.1 = 0 → Cond.instanceMethod e.2.2.2 ∈ zm_TW ∧ Cond.selects e.2.2.2.cls e.2.2.2 e.2.2.2 ∈ zm_TW) ∧ (e.2.1 = 1 → Cond.static e.2.2.2 ∈ zm_TW) ∧ (e.2.1 = 2 → Cond.instanceMethod e.2.2.2 ∈ zm_TW ∧ e.2.2.2.name = "<init>")
theorem zm_l0 {own : String} {i t : Nat} {y : MethodName} (h1 : Cond.methodLink own i y ∈ zm_TW) (h2 : Cond.instanceMethod y ∈ zm_TW) (h3 : Cond.selects y.cls y y ∈ zm_TW) : zm_okL own (i, 0, t, y) := ⟨h1, fun _ => ⟨h2, h3⟩, fun h => by simp at h, fun h => by simp at h⟩
theorem zm_l1 {own : String} {i t : Nat} {y : MethodName} (h1 : Cond.methodLink own i y ∈ zm_TW) (h2 : Cond.static y ∈ zm_TW) : zm_okL own (i, 1, t, y) := ⟨h1, fun h => by simp at h, fun _ => h2, fun h => by simp at h⟩
theorem zm_l2 {own : String} {i t : Nat} {y : MethodName} (h1 : Cond.methodLink own i y ∈ zm_TW) (h2 : Cond.instanceMethod y ∈ zm_TW) (h3 : y.name = "<init>") : zm_okL own (i, 2, t, y) := ⟨h1, fun h => by simp at h, fun h => by simp at h, fun _ => ⟨h2, h3⟩⟩
theorem zm_l3 {own : String} {i k t : Nat} {y : MethodName} (h1 : Cond.methodLink own i y ∈ zm_TW) (hk : 3 ≤ k) : zm_okL own (i, k, t, y) := ⟨h1, fun h => absurd hk (by rw [show k = 0 from h]; decide), fun h => absurd hk (by rw [show k = 1 from h]; decide), fun h => absurd hk (by rw [show k = 2 from h]; decide)⟩
theorem zm_im_1 : Cond.instanceMethod yX0_castAll ∈ zm_TW := (zm_t (zm_c4 157 rfl) rfl)
theorem zm_se_1 : Cond.selects (yX0_castAll).cls yX0_castAll yX0_castAll ∈ zm_TW := (zm_t (zm_c4 158 rfl) rfl)
theorem zm_im_2 : Cond.instanceMethod yX0_castBy ∈ zm_TW := (zm_t (zm_c4 171 rfl) rfl)
theorem zm_se_2 : Cond.selects (yX0_castBy).cls yX0_castBy yX0_castBy ∈ zm_TW := (zm_t (zm_c4 172 rfl) rfl)
theorem zm_im_4 : Cond.instanceMethod yX1_holdMany ∈ zm_TW := (zm_t (zm_c5 183 rfl) rfl)
theorem zm_se_4 : Cond.selects (yX1_holdMany).cls yX1_holdMany yX1_holdMany ∈ zm_TW := (zm_t (zm_c5 184 rfl) rfl)
theorem zm_im_5 : Cond.instanceMethod yX1_begin ∈ zm_TW := (zm_t (zm_c5 187 rfl) rfl)
theorem zm_se_5 : Cond.selects (yX1_begin).cls yX1_begin yX1_begin ∈ zm_TW := (zm_t (zm_c5 188 rfl) rfl)
theorem zm_im_6 : Cond.instanceMethod yX1_holdOne ∈ zm_TW := (zm_t (zm_c5 192 rfl) rfl)
theorem zm_se_6 : Cond.selects (yX1_holdOne).cls yX1_holdOne yX1_holdOne ∈ zm_TW := (zm_t (zm_c5 193 rfl) rfl)
theorem zm_im_7 : Cond.instanceMethod yX1_praise ∈ zm_TW := (zm_t (zm_c5 204 rfl) rfl)
theorem zm_se_7 : Cond.selects (yX1_praise).cls yX1_praise yX1_praise ∈ zm_TW := zm_ps (q := (yX1_praise, 7)) (by decide +kernel)
theorem zm_im_8 : Cond.instanceMethod yX1_errorOf ∈ zm_TW := (zm_t (zm_c5 197 rfl) rfl)
theorem zm_se_8 : Cond.selects (yX1_errorOf).cls yX1_errorOf yX1_errorOf ∈ zm_TW := zm_ps (q := (yX1_errorOf, 7)) (by decide +kernel)
theorem zm_im_10 : Cond.instanceMethod yX2_seekAirs ∈ zm_TW := (zm_t (zm_c5 50 rfl) rfl)
theorem zm_se_10 : Cond.selects (yX2_seekAirs).cls yX2_seekAirs yX2_seekAirs ∈ zm_TW := (zm_t (zm_c5 51 rfl) rfl)
theorem zm_im_11 : Cond.instanceMethod yX2_survey ∈ zm_TW := (zm_t (zm_c5 55 rfl) rfl)
theorem zm_se_11 : Cond.selects (yX2_survey).cls yX2_survey yX2_survey ∈ zm_TW := zm_ps (q := (yX2_survey, 11)) (by decide +kernel)
theorem zm_im_12 : Cond.instanceMethod yX2_lay ∈ zm_TW := (zm_t (zm_c5 60 rfl) rfl)
theorem zm_se_12 : Cond.selects (yX2_lay).cls yX2_lay yX2_lay ∈ zm_TW := zm_ps (q := (yX2_lay, 11)) (by decide +kernel)
theorem zm_im_13 : Cond.instanceMethod yX2_driftBy ∈ zm_TW := (zm_t (zm_c5 64 rfl) rfl)
theorem zm_se_13 : Cond.selects (yX2_driftBy).cls yX2_driftBy yX2_driftBy ∈ zm_TW := zm_ps (q := (yX2_driftBy, 11)) (by decide +kernel)
theorem zm_im_14 : Cond.instanceMethod yX2_fitsFlights ∈ zm_TW := (zm_t (zm_c5 68 rfl) rfl)
theorem zm_se_14 : Cond.selects (yX2_fitsFlights).cls yX2_fitsFlights yX2_fitsFlights ∈ zm_TW := zm_ps (q := (yX2_fitsFlights, 11)) (by decide +kernel)
theorem zm_im_15 : Cond.instanceMethod yX2_note ∈ zm_TW := (zm_t (zm_c5 73 rfl) rfl)
theorem zm_se_15 : Cond.selects (yX2_note).cls yX2_note yX2_note ∈ zm_TW := zm_ps (q := (yX2_note, 11)) (by decide +kernel)
theorem zm_im_16 : Cond.instanceMethod yX2_onlyDrift ∈ zm_TW := (zm_t (zm_c5 88 rfl) rfl)
theorem zm_se_16 : Cond.selects (yX2_onlyDrift).cls yX2_onlyDrift yX2_onlyDrift ∈ zm_TW := (zm_t (zm_c5 89 rfl) rfl)
theorem zm_im_17 : Cond.instanceMethod yX2_seekThrow ∈ zm_TW := (zm_t (zm_c5 104 rfl) rfl)
theorem zm_se_17 : Cond.selects (yX2_seekThrow).cls yX2_seekThrow yX2_seekThrow ∈ zm_TW := (zm_t (zm_c5 105 rfl) rfl)
theorem zm_im_18 : Cond.instanceMethod yX2_flyThrough ∈ zm_TW := (zm_t (zm_c5 110 rfl) rfl)
theorem zm_se_18 : Cond.selects (yX2_flyThrough).cls yX2_flyThrough yX2_flyThrough ∈ zm_TW := zm_ps (q := (yX2_flyThrough, 11)) (by decide +kernel)
theorem zm_im_20 : Cond.instanceMethod yX3_clear ∈ zm_TW := (zm_t (zm_c3 16 rfl) rfl)
theorem zm_se_20 : Cond.selects (yX3_clear).cls yX3_clear yX3_clear ∈ zm_TW := (zm_t (zm_c3 17 rfl) rfl)
theorem zm_im_21 : Cond.instanceMethod yX3_stands ∈ zm_TW := (zm_t (zm_c4 88 rfl) rfl)
theorem zm_se_21 : Cond.selects (yX3_stands).cls yX3_stands yX3_stands ∈ zm_TW := (zm_t (zm_c4 89 rfl) rfl)
theorem zm_im_22 : Cond.instanceMethod yX3_hasSpeaker ∈ zm_TW := (zm_t (zm_c3 217 rfl) rfl)
theorem zm_se_22 : Cond.selects (yX3_hasSpeaker).cls yX3_hasSpeaker yX3_hasSpeaker ∈ zm_TW := (zm_t (zm_c3 218 rfl) rfl)
theorem zm_im_23 : Cond.instanceMethod yX3_hasMember ∈ zm_TW := (zm_t (zm_c4 42 rfl) rfl)
theorem zm_se_23 : Cond.selects (yX3_hasMember).cls yX3_hasMember yX3_hasMember ∈ zm_TW := (zm_t (zm_c4 43 rfl) rfl)
theorem zm_im_24 : Cond.instanceMethod yX3_hasColumn ∈ zm_TW := (zm_t (zm_c4 62 rfl) rfl)
theorem zm_se_24 : Cond.selects (yX3_hasColumn).cls yX3_hasColumn yX3_hasColumn ∈ zm_TW := (zm_t (zm_c4 63 rfl) rfl)
theorem zm_im_25 : Cond.instanceMethod yX3_hasRow ∈ zm_TW := (zm_t (zm_c4 50 rfl) rfl)
theorem zm_se_25 : Cond.selects (yX3_hasRow).cls yX3_hasRow yX3_hasRow ∈ zm_TW := (zm_t (zm_c4 51 rfl) rfl)
theorem zm_im_26 : Cond.instanceMethod yX3_hasPlace ∈ zm_TW := (zm_t (zm_c4 58 rfl) rfl)
theorem zm_se_26 : Cond.selects (yX3_hasPlace).cls yX3_hasPlace yX3_hasPlace ∈ zm_TW := (zm_t (zm_c4 59 rfl) rfl)
theorem zm_im_27 : Cond.instanceMethod yX3_isLamp ∈ zm_TW := (zm_t (zm_c3 168 rfl) rfl)
theorem zm_se_27 : Cond.selects (yX3_isLamp).cls yX3_isLamp yX3_isLamp ∈ zm_TW := (zm_t (zm_c3 169 rfl) rfl)
theorem zm_im_28 : Cond.instanceMethod yX3_isSpeaker ∈ zm_TW := (zm_t (zm_c3 164 rfl) rfl)
theorem zm_se_28 : Cond.selects (yX3_isSpeaker).cls yX3_isSpeaker yX3_isSpeaker ∈ zm_TW := (zm_t (zm_c3 165 rfl) rfl)
theorem zm_im_29 : Cond.instanceMethod yX3_unknownRows ∈ zm_TW := (zm_t (zm_c5 100 rfl) rfl)
theorem zm_se_29 : Cond.selects (yX3_unknownRows).cls yX3_unknownRows yX3_unknownRows ∈ zm_TW := (zm_t (zm_c5 101 rfl) rfl)
theorem zm_im_30 : Cond.instanceMethod yX3_driftIn ∈ zm_TW := (zm_t (zm_c4 1 rfl) rfl)
theorem zm_se_30 : Cond.selects (yX3_driftIn).cls yX3_driftIn yX3_driftIn ∈ zm_TW := (zm_t (zm_c4 2 rfl) rfl)
theorem zm_im_31 : Cond.instanceMethod yX3_withinWalls ∈ zm_TW := (zm_t (zm_c4 5 rfl) rfl)
theorem zm_se_31 : Cond.selects (yX3_withinWalls).cls yX3_withinWalls yX3_withinWalls ∈ zm_TW := (zm_t (zm_c4 6 rfl) rfl)
theorem zm_im_32 : Cond.instanceMethod yX3_columnBy ∈ zm_TW := (zm_t (zm_c3 237 rfl) rfl)
theorem zm_se_32 : Cond.selects (yX3_columnBy).cls yX3_columnBy yX3_columnBy ∈ zm_TW := (zm_t (zm_c3 238 rfl) rfl)
theorem zm_im_34 : Cond.instanceMethod yX3_dartColumn ∈ zm_TW := (zm_t (zm_c3 233 rfl) rfl)
theorem zm_se_34 : Cond.selects (yX3_dartColumn).cls yX3_dartColumn yX3_dartColumn ∈ zm_TW := (zm_t (zm_c3 234 rfl) rfl)
theorem zm_im_35 : Cond.instanceMethod yX3_dartRow ∈ zm_TW := (zm_t (zm_c4 11 rfl) rfl)
theorem zm_se_35 : Cond.selects (yX3_dartRow).cls yX3_dartRow yX3_dartRow ∈ zm_TW := (zm_t (zm_c4 12 rfl) rfl)
theorem zm_im_36 : Cond.instanceMethod yX3_nearestTo ∈ zm_TW := (zm_t (zm_c4 27 rfl) rfl)
theorem zm_se_36 : Cond.selects (yX3_nearestTo).cls yX3_nearestTo yX3_nearestTo ∈ zm_TW := (zm_t (zm_c4 28 rfl) rfl)
theorem zm_im_38 : Cond.instanceMethod yX3_countsAt ∈ zm_TW := (zm_t (zm_c4 22 rfl) rfl)
theorem zm_se_38 : Cond.selects (yX3_countsAt).cls yX3_countsAt yX3_countsAt ∈ zm_TW := (zm_t (zm_c4 23 rfl) rfl)
theorem zm_im_39 : Cond.instanceMethod yX3_ballotAt ∈ zm_TW := (zm_t (zm_c4 18 rfl) rfl)
theorem zm_se_39 : Cond.selects (yX3_ballotAt).cls yX3_ballotAt yX3_ballotAt ∈ zm_TW := (zm_t (zm_c4 19 rfl) rfl)
theorem zm_im_40 : Cond.instanceMethod yX3_ballotOf ∈ zm_TW := (zm_t (zm_c3 229 rfl) rfl)
theorem zm_se_40 : Cond.selects (yX3_ballotOf).cls yX3_ballotOf yX3_ballotOf ∈ zm_TW := (zm_t (zm_c3 230 rfl) rfl)
theorem zm_im_41 : Cond.instanceMethod yX3_ballotsFor ∈ zm_TW := (zm_t (zm_c3 225 rfl) rfl)
theorem zm_se_41 : Cond.selects (yX3_ballotsFor).cls yX3_ballotsFor yX3_ballotsFor ∈ zm_TW := (zm_t (zm_c3 226 rfl) rfl)
theorem zm_im_42 : Cond.instanceMethod yX3_leader ∈ zm_TW := (zm_t (zm_c4 92 rfl) rfl)
theorem zm_se_42 : Cond.selects (yX3_leader).cls yX3_leader yX3_leader ∈ zm_TW := (zm_t (zm_c4 93 rfl) rfl)
theorem zm_im_44 : Cond.instanceMethod yX3_partsOf ∈ zm_TW := (zm_t (zm_c4 138 rfl) rfl)
theorem zm_se_44 : Cond.selects (yX3_partsOf).cls yX3_partsOf yX3_partsOf ∈ zm_TW := (zm_t (zm_c4 139 rfl) rfl)
theorem zm_im_45 : Cond.instanceMethod yX3_chanceBy ∈ zm_TW := (zm_t (zm_c4 134 rfl) rfl)
theorem zm_se_45 : Cond.selects (yX3_chanceBy).cls yX3_chanceBy yX3_chanceBy ∈ zm_TW := (zm_t (zm_c4 135 rfl) rfl)
theorem zm_im_46 : Cond.instanceMethod yX3_chanceNow ∈ zm_TW := (zm_t (zm_c4 130 rfl) rfl)
theorem zm_se_46 : Cond.selects (yX3_chanceNow).cls yX3_chanceNow yX3_chanceNow ∈ zm_TW := (zm_t (zm_c4 131 rfl) rfl)
theorem zm_im_51 : Cond.instanceMethod yX4_weighWins ∈ zm_TW := (zm_t (zm_c4 153 rfl) rfl)
theorem zm_se_51 : Cond.selects (yX4_weighWins).cls yX4_weighWins yX4_weighWins ∈ zm_TW := (zm_t (zm_c4 154 rfl) rfl)
theorem zm_im_52 : Cond.instanceMethod yX4_throwFrom ∈ zm_TW := (zm_t (zm_c4 166 rfl) rfl)
theorem zm_se_52 : Cond.selects (yX4_throwFrom).cls yX4_throwFrom yX4_throwFrom ∈ zm_TW := zm_ps (q := (yX4_throwFrom, 7)) (by decide +kernel)
theorem zm_im_53 : Cond.instanceMethod yX4_weighCounts ∈ zm_TW := (zm_t (zm_c4 183 rfl) rfl)
theorem zm_se_53 : Cond.selects (yX4_weighCounts).cls yX4_weighCounts yX4_weighCounts ∈ zm_TW := (zm_t (zm_c4 184 rfl) rfl)
theorem zm_im_54 : Cond.instanceMethod yX4_likeliest ∈ zm_TW := (zm_t (zm_c4 196 rfl) rfl)
theorem zm_se_54 : Cond.selects (yX4_likeliest).cls yX4_likeliest yX4_likeliest ∈ zm_TW := (zm_t (zm_c4 197 rfl) rfl)
theorem zm_im_55 : Cond.instanceMethod yX4_seekFold ∈ zm_TW := (zm_t (zm_c4 204 rfl) rfl)
theorem zm_se_55 : Cond.selects (yX4_seekFold).cls yX4_seekFold yX4_seekFold ∈ zm_TW := (zm_t (zm_c4 205 rfl) rfl)
theorem zm_im_56 : Cond.instanceMethod yX4_seekSeat ∈ zm_TW := (zm_t (zm_c4 217 rfl) rfl)
theorem zm_se_56 : Cond.selects (yX4_seekSeat).cls yX4_seekSeat yX4_seekSeat ∈ zm_TW := (zm_t (zm_c4 218 rfl) rfl)
theorem zm_im_58 : Cond.instanceMethod yX5_forgetAll ∈ zm_TW := (zm_t (zm_c3 201 rfl) rfl)
theorem zm_se_58 : Cond.selects (yX5_forgetAll).cls yX5_forgetAll yX5_forgetAll ∈ zm_TW := (zm_t (zm_c3 202 rfl) rfl)
theorem zm_im_59 : Cond.instanceMethod yX5_keep ∈ zm_TW := (zm_t (zm_c5 223 rfl) rfl)
theorem zm_se_59 : Cond.selects (yX5_keep).cls yX5_keep yX5_keep ∈ zm_TW := (zm_t (zm_c5 224 rfl) rfl)
theorem zm_im_60 : Cond.instanceMethod yX5_takeBack ∈ zm_TW := (zm_t (zm_c6 20 rfl) rfl)
theorem zm_se_60 : Cond.selects (yX5_takeBack).cls yX5_takeBack yX5_takeBack ∈ zm_TW := (zm_t (zm_c6 21 rfl) rfl)
theorem zm_im_61 : Cond.instanceMethod yX5_hasImageRoom ∈ zm_TW := (zm_t (zm_c6 28 rfl) rfl)
theorem zm_se_61 : Cond.selects (yX5_hasImageRoom).cls yX5_hasImageRoom yX5_hasImageRoom ∈ zm_TW := (zm_t (zm_c6 29 rfl) rfl)
theorem zm_im_62 : Cond.instanceMethod yX5_takeImage ∈ zm_TW := (zm_t (zm_c6 32 rfl) rfl)
theorem zm_se_62 : Cond.selects (yX5_takeImage).cls yX5_takeImage yX5_takeImage ∈ zm_TW := (zm_t (zm_c6 33 rfl) rfl)
theorem zm_im_63 : Cond.instanceMethod yX5_goBack ∈ zm_TW := (zm_t (zm_c6 40 rfl) rfl)
theorem zm_se_63 : Cond.selects (yX5_goBack).cls yX5_goBack yX5_goBack ∈ zm_TW := (zm_t (zm_c6 41 rfl) rfl)
theorem zm_im_65 : Cond.instanceMethod yX6_gather ∈ zm_TW := (zm_t (zm_c4 229 rfl) rfl)
theorem zm_se_65 : Cond.selects (yX6_gather).cls yX6_gather yX6_gather ∈ zm_TW := (zm_t (zm_c4 230 rfl) rfl)
theorem zm_im_66 : Cond.instanceMethod yX6_addDart ∈ zm_TW := (zm_t (zm_c4 118 rfl) rfl)
theorem zm_se_66 : Cond.selects (yX6_addDart).cls yX6_addDart yX6_addDart ∈ zm_TW := zm_ps (q := (yX6_addDart, 12)) (by decide +kernel)
theorem zm_im_67 : Cond.instanceMethod yX6_ballotsFor ∈ zm_TW := (zm_t (zm_c5 6 rfl) rfl)
theorem zm_se_67 : Cond.selects (yX6_ballotsFor).cls yX6_ballotsFor yX6_ballotsFor ∈ zm_TW := (zm_t (zm_c5 7 rfl) rfl)
theorem zm_im_68 : Cond.instanceMethod yX6_thickestPlace ∈ zm_TW := (zm_t (zm_c4 111 rfl) rfl)
theorem zm_se_68 : Cond.selects (yX6_thickestPlace).cls yX6_thickestPlace yX6_thickestPlace ∈ zm_TW := (zm_t (zm_c4 112 rfl) rfl)
theorem zm_im_69 : Cond.instanceMethod yX6_dartsAt ∈ zm_TW := (zm_t (zm_c4 122 rfl) rfl)
theorem zm_se_69 : Cond.selects (yX6_dartsAt).cls yX6_dartsAt yX6_dartsAt ∈ zm_TW := zm_ps (q := (yX6_dartsAt, 12)) (by decide +kernel)
theorem zm_im_70 : Cond.instanceMethod yX6_seekPlace ∈ zm_TW := (zm_t (zm_c4 225 rfl) rfl)
theorem zm_se_70 : Cond.selects (yX6_seekPlace).cls yX6_seekPlace yX6_seekPlace ∈ zm_TW := (zm_t (zm_c4 226 rfl) rfl)
theorem zm_im_72 : Cond.instanceMethod yX6_tryPlace ∈ zm_TW := (zm_t (zm_c5 3 rfl) rfl)
theorem zm_se_72 : Cond.selects (yX6_tryPlace).cls yX6_tryPlace yX6_tryPlace ∈ zm_TW := zm_ps (q := (yX6_tryPlace, 12)) (by decide +kernel)
theorem zm_im_73 : Cond.instanceMethod yX6_seekRests ∈ zm_TW := (zm_t (zm_c5 30 rfl) rfl)
theorem zm_se_73 : Cond.selects (yX6_seekRests).cls yX6_seekRests yX6_seekRests ∈ zm_TW := (zm_t (zm_c5 31 rfl) rfl)
theorem zm_im_74 : Cond.instanceMethod yX6_playAll ∈ zm_TW := (zm_t (zm_c5 35 rfl) rfl)
theorem zm_se_74 : Cond.selects (yX6_playAll).cls yX6_playAll yX6_playAll ∈ zm_TW := zm_ps (q := (yX6_playAll, 12)) (by decide +kernel)
theorem zm_im_75 : Cond.instanceMethod yX6_isRest ∈ zm_TW := (zm_t (zm_c5 39 rfl) rfl)
theorem zm_se_75 : Cond.selects (yX6_isRest).cls yX6_isRest yX6_isRest ∈ zm_TW := zm_ps (q := (yX6_isRest, 12)) (by decide +kernel)
theorem zm_im_77 : Cond.instanceMethod yX7_read ∈ zm_TW := (zm_t (zm_c3 12 rfl) rfl)
theorem zm_se_77 : Cond.selects (yX7_read).cls yX7_read yX7_read ∈ zm_TW := (zm_t (zm_c3 13 rfl) rfl)
theorem zm_im_78 : Cond.instanceMethod yX7_fail ∈ zm_TW := (zm_t (zm_c3 114 rfl) rfl)
theorem zm_se_78 : Cond.selects (yX7_fail).cls yX7_fail yX7_fail ∈ zm_TW := zm_ps (q := (yX7_fail, 10)) (by decide +kernel)
theorem zm_im_79 : Cond.instanceMethod yX7_takeLine ∈ zm_TW := (zm_t (zm_c3 43 rfl) rfl)
theorem zm_se_79 : Cond.selects (yX7_takeLine).cls yX7_takeLine yX7_takeLine ∈ zm_TW := zm_ps (q := (yX7_takeLine, 10)) (by decide +kernel)
theorem zm_im_80 : Cond.instanceMethod yX7_lineSort ∈ zm_TW := (zm_t (zm_c3 47 rfl) rfl)
theorem zm_se_80 : Cond.selects (yX7_lineSort).cls yX7_lineSort yX7_lineSort ∈ zm_TW := zm_ps (q := (yX7_lineSort, 10)) (by decide +kernel)
theorem zm_im_81 : Cond.instanceMethod yX7_mayBegin ∈ zm_TW := (zm_t (zm_c3 110 rfl) rfl)
theorem zm_se_81 : Cond.selects (yX7_mayBegin).cls yX7_mayBegin yX7_mayBegin ∈ zm_TW := zm_ps (q := (yX7_mayBegin, 10)) (by decide +kernel)
theorem zm_im_82 : Cond.instanceMethod yX7_hasRoomFor ∈ zm_TW := (zm_t (zm_c3 118 rfl) rfl)
theorem zm_se_82 : Cond.selects (yX7_hasRoomFor).cls yX7_hasRoomFor yX7_hasRoomFor ∈ zm_TW := zm_ps (q := (yX7_hasRoomFor, 10)) (by decide +kernel)
theorem zm_im_83 : Cond.instanceMethod yX7_takeHall ∈ zm_TW := (zm_t (zm_c3 123 rfl) rfl)
theorem zm_se_83 : Cond.selects (yX7_takeHall).cls yX7_takeHall yX7_takeHall ∈ zm_TW := zm_ps (q := (yX7_takeHall, 10)) (by decide +kernel)
theorem zm_im_84 : Cond.instanceMethod yX7_takeAir ∈ zm_TW := (zm_t (zm_c3 138 rfl) rfl)
theorem zm_se_84 : Cond.selects (yX7_takeAir).cls yX7_takeAir yX7_takeAir ∈ zm_TW := zm_ps (q := (yX7_takeAir, 10)) (by decide +kernel)
theorem zm_im_85 : Cond.instanceMethod yX7_takeFog ∈ zm_TW := (zm_t (zm_c3 148 rfl) rfl)
theorem zm_se_85 : Cond.selects (yX7_takeFog).cls yX7_takeFog yX7_takeFog ∈ zm_TW := zm_ps (q := (yX7_takeFog, 10)) (by decide +kernel)
theorem zm_im_86 : Cond.instanceMethod yX7_takeNewAir ∈ zm_TW := (zm_t (zm_c3 142 rfl) rfl)
theorem zm_se_86 : Cond.selects (yX7_takeNewAir).cls yX7_takeNewAir yX7_takeNewAir ∈ zm_TW := zm_ps (q := (yX7_takeNewAir, 10)) (by decide +kernel)
theorem zm_im_87 : Cond.instanceMethod yX7_takeSpeaker ∈ zm_TW := (zm_t (zm_c3 152 rfl) rfl)
theorem zm_se_87 : Cond.selects (yX7_takeSpeaker).cls yX7_takeSpeaker yX7_takeSpeaker ∈ zm_TW := zm_ps (q := (yX7_takeSpeaker, 10)) (by decide +kernel)
theorem zm_im_88 : Cond.instanceMethod yX7_takeMember ∈ zm_TW := (zm_t (zm_c3 173 rfl) rfl)
theorem zm_se_88 : Cond.selects (yX7_takeMember).cls yX7_takeMember yX7_takeMember ∈ zm_TW := zm_ps (q := (yX7_takeMember, 10)) (by decide +kernel)
theorem zm_im_89 : Cond.instanceMethod yX7_takeLamp ∈ zm_TW := (zm_t (zm_c3 189 rfl) rfl)
theorem zm_se_89 : Cond.selects (yX7_takeLamp).cls yX7_takeLamp yX7_takeLamp ∈ zm_TW := zm_ps (q := (yX7_takeLamp, 10)) (by decide +kernel)
theorem zm_im_90 : Cond.instanceMethod yX7_takeFlight ∈ zm_TW := (zm_t (zm_c3 193 rfl) rfl)
theorem zm_se_90 : Cond.selects (yX7_takeFlight).cls yX7_takeFlight yX7_takeFlight ∈ zm_TW := zm_ps (q := (yX7_takeFlight, 10)) (by decide +kernel)
theorem zm_im_91 : Cond.instanceMethod yX7_takePart ∈ zm_TW := (zm_t (zm_c3 198 rfl) rfl)
theorem zm_se_91 : Cond.selects (yX7_takePart).cls yX7_takePart yX7_takePart ∈ zm_TW := zm_ps (q := (yX7_takePart, 10)) (by decide +kernel)
theorem zm_im_92 : Cond.instanceMethod yX7_takeWord ∈ zm_TW := (zm_t (zm_c3 128 rfl) rfl)
theorem zm_se_92 : Cond.selects (yX7_takeWord).cls yX7_takeWord yX7_takeWord ∈ zm_TW := zm_ps (q := (yX7_takeWord, 10)) (by decide +kernel)
theorem zm_im_93 : Cond.instanceMethod yX7_takeWhole ∈ zm_TW := (zm_t (zm_c3 132 rfl) rfl)
theorem zm_se_93 : Cond.selects (yX7_takeWhole).cls yX7_takeWhole yX7_takeWhole ∈ zm_TW := zm_ps (q := (yX7_takeWhole, 10)) (by decide +kernel)
theorem zm_im_94 : Cond.instanceMethod yX7_takePlace ∈ zm_TW := (zm_t (zm_c3 161 rfl) rfl)
theorem zm_se_94 : Cond.selects (yX7_takePlace).cls yX7_takePlace yX7_takePlace ∈ zm_TW := zm_ps (q := (yX7_takePlace, 10)) (by decide +kernel)
theorem zm_im_95 : Cond.instanceMethod yX7_takeName ∈ zm_TW := (zm_t (zm_c3 156 rfl) rfl)
theorem zm_se_95 : Cond.selects (yX7_takeName).cls yX7_takeName yX7_takeName ∈ zm_TW := zm_ps (q := (yX7_takeName, 10)) (by decide +kernel)
theorem zm_im_96 : Cond.instanceMethod yX7_takeFold ∈ zm_TW := (zm_t (zm_c3 177 rfl) rfl)
theorem zm_se_96 : Cond.selects (yX7_takeFold).cls yX7_takeFold yX7_takeFold ∈ zm_TW := zm_ps (q := (yX7_takeFold, 10)) (by decide +kernel)
theorem zm_im_98 : Cond.instanceMethod yX8_powerOf ∈ zm_TW := (zm_t (zm_c5 127 rfl) rfl)
theorem zm_se_98 : Cond.selects (yX8_powerOf).cls yX8_powerOf yX8_powerOf ∈ zm_TW := (zm_t (zm_c5 128 rfl) rfl)
theorem zm_im_99 : Cond.instanceMethod yX8_mightiest ∈ zm_TW := (zm_t (zm_c5 149 rfl) rfl)
theorem zm_se_99 : Cond.selects (yX8_mightiest).cls yX8_mightiest yX8_mightiest ∈ zm_TW := (zm_t (zm_c5 150 rfl) rfl)
theorem zm_im_100 : Cond.instanceMethod yX8_castAll ∈ zm_TW := (zm_t (zm_c5 132 rfl) rfl)
theorem zm_se_100 : Cond.selects (yX8_castAll).cls yX8_castAll yX8_castAll ∈ zm_TW := zm_ps (q := (yX8_castAll, 4)) (by decide +kernel)
theorem zm_im_101 : Cond.instanceMethod yX8_turns ∈ zm_TW := (zm_t (zm_c5 137 rfl) rfl)
theorem zm_se_101 : Cond.selects (yX8_turns).cls yX8_turns yX8_turns ∈ zm_TW := zm_ps (q := (yX8_turns, 4)) (by decide +kernel)
theorem zm_im_102 : Cond.instanceMethod yX8_countSet ∈ zm_TW := (zm_t (zm_c5 141 rfl) rfl)
theorem zm_se_102 : Cond.selects (yX8_countSet).cls yX8_countSet yX8_countSet ∈ zm_TW := zm_ps (q := (yX8_countSet, 4)) (by decide +kernel)
theorem zm_im_103 : Cond.instanceMethod yX8_rakeSteps ∈ zm_TW := (zm_t (zm_c5 157 rfl) rfl)
theorem zm_se_103 : Cond.selects (yX8_rakeSteps).cls yX8_rakeSteps yX8_rakeSteps ∈ zm_TW := (zm_t (zm_c5 158 rfl) rfl)
theorem zm_im_104 : Cond.instanceMethod yX8_stepsFrom ∈ zm_TW := (zm_t (zm_c5 164 rfl) rfl)
theorem zm_se_104 : Cond.selects (yX8_stepsFrom).cls yX8_stepsFrom yX8_stepsFrom ∈ zm_TW := zm_ps (q := (yX8_stepsFrom, 4)) (by decide +kernel)
theorem zm_im_106 : Cond.instanceMethod yX9_hasRoom ∈ zm_TW := (zm_t (zm_c2 236 rfl) rfl)
theorem zm_se_106 : Cond.selects (yX9_hasRoom).cls yX9_hasRoom yX9_hasRoom ∈ zm_TW := (zm_t (zm_c2 237 rfl) rfl)
theorem zm_im_107 : Cond.instanceMethod yX9_append ∈ zm_TW := (zm_t (zm_c3 0 rfl) rfl)
theorem zm_se_107 : Cond.selects (yX9_append).cls yX9_append yX9_append ∈ zm_TW := (zm_t (zm_c3 1 rfl) rfl)
theorem zm_im_108 : Cond.instanceMethod yX9_rewind ∈ zm_TW := (zm_t (zm_c3 20 rfl) rfl)
theorem zm_se_108 : Cond.selects (yX9_rewind).cls yX9_rewind yX9_rewind ∈ zm_TW := (zm_t (zm_c3 21 rfl) rfl)
theorem zm_im_109 : Cond.instanceMethod yX9_advance ∈ zm_TW := (zm_t (zm_c3 30 rfl) rfl)
theorem zm_se_109 : Cond.selects (yX9_advance).cls yX9_advance yX9_advance ∈ zm_TW := (zm_t (zm_c3 31 rfl) rfl)
theorem zm_im_110 : Cond.instanceMethod yX9_takeWord ∈ zm_TW := (zm_t (zm_c3 35 rfl) rfl)
theorem zm_se_110 : Cond.selects (yX9_takeWord).cls yX9_takeWord yX9_takeWord ∈ zm_TW := zm_ps (q := (yX9_takeWord, 8)) (by decide +kernel)
theorem zm_im_111 : Cond.instanceMethod yX9_takeWhole ∈ zm_TW := (zm_t (zm_c3 39 rfl) rfl)
theorem zm_se_111 : Cond.selects (yX9_takeWhole).cls yX9_takeWhole yX9_takeWhole ∈ zm_TW := zm_ps (q := (yX9_takeWhole, 8)) (by decide +kernel)
theorem zm_im_112 : Cond.instanceMethod yX9_isWord ∈ zm_TW := (zm_t (zm_c3 51 rfl) rfl)
theorem zm_se_112 : Cond.selects (yX9_isWord).cls yX9_isWord yX9_isWord ∈ zm_TW := (zm_t (zm_c3 52 rfl) rfl)
theorem zm_im_114 : Cond.instanceMethod yX10_feed ∈ zm_TW := (zm_t (zm_c2 232 rfl) rfl)
theorem zm_se_114 : Cond.selects (yX10_feed).cls yX10_feed yX10_feed ∈ zm_TW := (zm_t (zm_c2 233 rfl) rfl)
theorem zm_im_115 : Cond.instanceMethod yX10_hall ∈ zm_TW := (zm_t (zm_c3 4 rfl) rfl)
theorem zm_se_115 : Cond.selects (yX10_hall).cls yX10_hall yX10_hall ∈ zm_TW := (zm_t (zm_c3 5 rfl) rfl)
theorem zm_im_116 : Cond.instanceMethod yX10_fault ∈ zm_TW := (zm_t (zm_c3 205 rfl) rfl)
theorem zm_se_116 : Cond.selects (yX10_fault).cls yX10_fault yX10_fault ∈ zm_TW := (zm_t (zm_c3 206 rfl) rfl)
theorem zm_im_117 : Cond.instanceMethod yX10_where ∈ zm_TW := (zm_t (zm_c3 209 rfl) rfl)
theorem zm_se_117 : Cond.selects (yX10_where).cls yX10_where yX10_where ∈ zm_TW := (zm_t (zm_c3 210 rfl) rfl)
theorem zm_im_118 : Cond.instanceMethod yX10_speaker ∈ zm_TW := (zm_t (zm_c3 213 rfl) rfl)
theorem zm_se_118 : Cond.selects (yX10_speaker).cls yX10_speaker yX10_speaker ∈ zm_TW := (zm_t (zm_c3 214 rfl) rfl)
theorem zm_im_119 : Cond.instanceMethod yX10_member ∈ zm_TW := (zm_t (zm_c4 38 rfl) rfl)
theorem zm_se_119 : Cond.selects (yX10_member).cls yX10_member yX10_member ∈ zm_TW := (zm_t (zm_c4 39 rfl) rfl)
theorem zm_im_120 : Cond.instanceMethod yX10_air ∈ zm_TW := (zm_t (zm_c4 46 rfl) rfl)
theorem zm_se_120 : Cond.selects (yX10_air).cls yX10_air yX10_air ∈ zm_TW := (zm_t (zm_c4 47 rfl) rfl)
theorem zm_im_121 : Cond.instanceMethod yX10_lamp ∈ zm_TW := (zm_t (zm_c4 54 rfl) rfl)
theorem zm_se_121 : Cond.selects (yX10_lamp).cls yX10_lamp yX10_lamp ∈ zm_TW := (zm_t (zm_c4 55 rfl) rfl)
theorem zm_im_122 : Cond.instanceMethod yX10_lands ∈ zm_TW := (zm_t (zm_c4 68 rfl) rfl)
theorem zm_se_122 : Cond.selects (yX10_lands).cls yX10_lands yX10_lands ∈ zm_TW := (zm_t (zm_c4 69 rfl) rfl)
theorem zm_im_123 : Cond.instanceMethod yX10_votes ∈ zm_TW := (zm_t (zm_c4 74 rfl) rfl)
theorem zm_se_123 : Cond.selects (yX10_votes).cls yX10_votes yX10_votes ∈ zm_TW := (zm_t (zm_c4 75 rfl) rfl)
theorem zm_im_124 : Cond.instanceMethod yX10_nearest ∈ zm_TW := (zm_t (zm_c4 79 rfl) rfl)
theorem zm_se_124 : Cond.selects (yX10_nearest).cls yX10_nearest yX10_nearest ∈ zm_TW := (zm_t (zm_c4 80 rfl) rfl)
theorem zm_im_125 : Cond.instanceMethod yX10_winner ∈ zm_TW := (zm_t (zm_c4 84 rfl) rfl)
theorem zm_se_125 : Cond.selects (yX10_winner).cls yX10_winner yX10_winner ∈ zm_TW := (zm_t (zm_c4 85 rfl) rfl)
theorem zm_im_126 : Cond.instanceMethod yX10_counted ∈ zm_TW := (zm_t (zm_c4 99 rfl) rfl)
theorem zm_se_126 : Cond.selects (yX10_counted).cls yX10_counted yX10_counted ∈ zm_TW := (zm_t (zm_c4 100 rfl) rfl)
theorem zm_im_127 : Cond.instanceMethod yX10_hang ∈ zm_TW := (zm_t (zm_c4 103 rfl) rfl)
theorem zm_se_127 : Cond.selects (yX10_hang).cls yX10_hang yX10_hang ∈ zm_TW := (zm_t (zm_c4 104 rfl) rfl)
theorem zm_im_128 : Cond.instanceMethod yX10_thickest ∈ zm_TW := (zm_t (zm_c4 107 rfl) rfl)
theorem zm_se_128 : Cond.selects (yX10_thickest).cls yX10_thickest yX10_thickest ∈ zm_TW := (zm_t (zm_c4 108 rfl) rfl)
theorem zm_im_129 : Cond.instanceMethod yX10_likely ∈ zm_TW := (zm_t (zm_c4 125 rfl) rfl)
theorem zm_se_129 : Cond.selects (yX10_likely).cls yX10_likely yX10_likely ∈ zm_TW := (zm_t (zm_c4 126 rfl) rfl)
theorem zm_im_130 : Cond.instanceMethod yX10_wins ∈ zm_TW := (zm_t (zm_c4 149 rfl) rfl)
theorem zm_se_130 : Cond.selects (yX10_wins).cls yX10_wins yX10_wins ∈ zm_TW := (zm_t (zm_c4 150 rfl) rfl)
theorem zm_im_131 : Cond.instanceMethod yX10_just ∈ zm_TW := (zm_t (zm_c4 179 rfl) rfl)
theorem zm_se_131 : Cond.selects (yX10_just).cls yX10_just yX10_just ∈ zm_TW := (zm_t (zm_c4 180 rfl) rfl)
theorem zm_im_132 : Cond.instanceMethod yX10_mean ∈ zm_TW := (zm_t (zm_c4 188 rfl) rfl)
theorem zm_se_132 : Cond.selects (yX10_mean).cls yX10_mean yX10_mean ∈ zm_TW := (zm_t (zm_c4 189 rfl) rfl)
theorem zm_im_133 : Cond.instanceMethod yX10_favourite ∈ zm_TW := (zm_t (zm_c4 192 rfl) rfl)
theorem zm_se_133 : Cond.selects (yX10_favourite).cls yX10_favourite yX10_favourite ∈ zm_TW := (zm_t (zm_c4 193 rfl) rfl)
theorem zm_im_134 : Cond.instanceMethod yX10_bestFold ∈ zm_TW := (zm_t (zm_c4 200 rfl) rfl)
theorem zm_se_134 : Cond.selects (yX10_bestFold).cls yX10_bestFold yX10_bestFold ∈ zm_TW := (zm_t (zm_c4 201 rfl) rfl)
theorem zm_im_135 : Cond.instanceMethod yX10_bestLikely ∈ zm_TW := (zm_t (zm_c4 209 rfl) rfl)
theorem zm_se_135 : Cond.selects (yX10_bestLikely).cls yX10_bestLikely yX10_bestLikely ∈ zm_TW := (zm_t (zm_c4 210 rfl) rfl)
theorem zm_im_136 : Cond.instanceMethod yX10_bestSeat ∈ zm_TW := (zm_t (zm_c4 213 rfl) rfl)
theorem zm_se_136 : Cond.selects (yX10_bestSeat).cls yX10_bestSeat yX10_bestSeat ∈ zm_TW := (zm_t (zm_c4 214 rfl) rfl)
theorem zm_im_137 : Cond.instanceMethod yX10_place ∈ zm_TW := (zm_t (zm_c4 221 rfl) rfl)
theorem zm_se_137 : Cond.selects (yX10_place).cls yX10_place yX10_place ∈ zm_TW := (zm_t (zm_c4 222 rfl) rfl)
theorem zm_im_138 : Cond.instanceMethod yX10_placeVotes ∈ zm_TW := (zm_t (zm_c5 11 rfl) rfl)
theorem zm_se_138 : Cond.selects (yX10_placeVotes).cls yX10_placeVotes yX10_placeVotes ∈ zm_TW := (zm_t (zm_c5 12 rfl) rfl)
theorem zm_im_139 : Cond.instanceMethod yX10_game ∈ zm_TW := (zm_t (zm_c5 15 rfl) rfl)
theorem zm_se_139 : Cond.selects (yX10_game).cls yX10_game yX10_game ∈ zm_TW := (zm_t (zm_c5 16 rfl) rfl)
theorem zm_im_140 : Cond.instanceMethod yX10_rests ∈ zm_TW := (zm_t (zm_c5 26 rfl) rfl)
theorem zm_se_140 : Cond.selects (yX10_rests).cls yX10_rests yX10_rests ∈ zm_TW := (zm_t (zm_c5 27 rfl) rfl)
theorem zm_im_141 : Cond.instanceMethod yX10_rest ∈ zm_TW := (zm_t (zm_c5 42 rfl) rfl)
theorem zm_se_141 : Cond.selects (yX10_rest).cls yX10_rest yX10_rest ∈ zm_TW := (zm_t (zm_c5 43 rfl) rfl)
theorem zm_im_142 : Cond.instanceMethod yX10_airs ∈ zm_TW := (zm_t (zm_c5 46 rfl) rfl)
theorem zm_se_142 : Cond.selects (yX10_airs).cls yX10_airs yX10_airs ∈ zm_TW := (zm_t (zm_c5 47 rfl) rfl)
theorem zm_im_143 : Cond.instanceMethod yX10_could ∈ zm_TW := (zm_t (zm_c5 76 rfl) rfl)
theorem zm_se_143 : Cond.selects (yX10_could).cls yX10_could yX10_could ∈ zm_TW := (zm_t (zm_c5 77 rfl) rfl)
theorem zm_im_144 : Cond.instanceMethod yX10_surely ∈ zm_TW := (zm_t (zm_c5 84 rfl) rfl)
theorem zm_se_144 : Cond.selects (yX10_surely).cls yX10_surely yX10_surely ∈ zm_TW := (zm_t (zm_c5 85 rfl) rfl)
theorem zm_im_145 : Cond.instanceMethod yX10_toThrow ∈ zm_TW := (zm_t (zm_c5 92 rfl) rfl)
theorem zm_se_145 : Cond.selects (yX10_toThrow).cls yX10_toThrow yX10_toThrow ∈ zm_TW := (zm_t (zm_c5 93 rfl) rfl)
theorem zm_im_146 : Cond.instanceMethod yX10_throwLeaves ∈ zm_TW := (zm_t (zm_c5 114 rfl) rfl)
theorem zm_se_146 : Cond.selects (yX10_throwLeaves).cls yX10_throwLeaves yX10_throwLeaves ∈ zm_TW := (zm_t (zm_c5 115 rfl) rfl)
theorem zm_im_147 : Cond.instanceMethod yX10_judge ∈ zm_TW := (zm_t (zm_c5 118 rfl) rfl)
theorem zm_se_147 : Cond.selects (yX10_judge).cls yX10_judge yX10_judge ∈ zm_TW := (zm_t (zm_c5 119 rfl) rfl)
theorem zm_im_148 : Cond.instanceMethod yX10_power ∈ zm_TW := (zm_t (zm_c5 123 rfl) rfl)
theorem zm_se_148 : Cond.selects (yX10_power).cls yX10_power yX10_power ∈ zm_TW := (zm_t (zm_c5 124 rfl) rfl)
theorem zm_im_149 : Cond.instanceMethod yX10_mighty ∈ zm_TW := (zm_t (zm_c5 145 rfl) rfl)
theorem zm_se_149 : Cond.selects (yX10_mighty).cls yX10_mighty yX10_mighty ∈ zm_TW := (zm_t (zm_c5 146 rfl) rfl)
theorem zm_im_150 : Cond.instanceMethod yX10_rake ∈ zm_TW := (zm_t (zm_c5 153 rfl) rfl)
theorem zm_se_150 : Cond.selects (yX10_rake).cls yX10_rake yX10_rake ∈ zm_TW := (zm_t (zm_c5 154 rfl) rfl)
theorem zm_im_151 : Cond.instanceMethod yX10_sessions ∈ zm_TW := (zm_t (zm_c5 170 rfl) rfl)
theorem zm_se_151 : Cond.selects (yX10_sessions).cls yX10_sessions yX10_sessions ∈ zm_TW := (zm_t (zm_c5 171 rfl) rfl)
theorem zm_im_152 : Cond.instanceMethod yX10_darts ∈ zm_TW := (zm_t (zm_c5 207 rfl) rfl)
theorem zm_se_152 : Cond.selects (yX10_darts).cls yX10_darts yX10_darts ∈ zm_TW := (zm_t (zm_c5 208 rfl) rfl)
theorem zm_im_153 : Cond.instanceMethod yX10_lucky ∈ zm_TW := (zm_t (zm_c5 211 rfl) rfl)
theorem zm_se_153 : Cond.selects (yX10_lucky).cls yX10_lucky yX10_lucky ∈ zm_TW := (zm_t (zm_c5 212 rfl) rfl)
theorem zm_im_154 : Cond.instanceMethod yX10_sit ∈ zm_TW := (zm_t (zm_c5 215 rfl) rfl)
theorem zm_se_154 : Cond.selects (yX10_sit).cls yX10_sit yX10_sit ∈ zm_TW := (zm_t (zm_c5 216 rfl) rfl)
theorem zm_im_155 : Cond.instanceMethod yX10_fold ∈ zm_TW := (zm_t (zm_c5 229 rfl) rfl)
theorem zm_se_155 : Cond.selects (yX10_fold).cls yX10_fold yX10_fold ∈ zm_TW := (zm_t (zm_c5 230 rfl) rfl)
theorem zm_im_156 : Cond.instanceMethod yX10_aim ∈ zm_TW := (zm_t (zm_c5 233 rfl) rfl)
theorem zm_se_156 : Cond.selects (yX10_aim).cls yX10_aim yX10_aim ∈ zm_TW := (zm_t (zm_c5 234 rfl) rfl)
theorem zm_im_157 : Cond.instanceMethod yX10_warm ∈ zm_TW := (zm_t (zm_c5 237 rfl) rfl)
theorem zm_se_157 : Cond.selects (yX10_warm).cls yX10_warm yX10_warm ∈ zm_TW := (zm_t (zm_c5 238 rfl) rfl)
theorem zm_im_158 : Cond.instanceMethod yX10_stand ∈ zm_TW := (zm_t (zm_c6 1 rfl) rfl)
theorem zm_se_158 : Cond.selects (yX10_stand).cls yX10_stand yX10_stand ∈ zm_TW := (zm_t (zm_c6 2 rfl) rfl)
theorem zm_im_159 : Cond.instanceMethod yX10_session ∈ zm_TW := (zm_t (zm_c6 6 rfl) rfl)
theorem zm_se_159 : Cond.selects (yX10_session).cls yX10_session yX10_session ∈ zm_TW := (zm_t (zm_c6 7 rfl) rfl)
theorem zm_im_160 : Cond.instanceMethod yX10_seed ∈ zm_TW := (zm_t (zm_c6 12 rfl) rfl)
theorem zm_se_160 : Cond.selects (yX10_seed).cls yX10_seed yX10_seed ∈ zm_TW := (zm_t (zm_c6 13 rfl) rfl)
theorem zm_im_161 : Cond.instanceMethod yX10_undo ∈ zm_TW := (zm_t (zm_c6 16 rfl) rfl)
theorem zm_se_161 : Cond.selects (yX10_undo).cls yX10_undo yX10_undo ∈ zm_TW := (zm_t (zm_c6 17 rfl) rfl)
theorem zm_im_162 : Cond.instanceMethod yX10_image ∈ zm_TW := (zm_t (zm_c6 24 rfl) rfl)
theorem zm_se_162 : Cond.selects (yX10_image).cls yX10_image yX10_image ∈ zm_TW := (zm_t (zm_c6 25 rfl) rfl)
theorem zm_im_163 : Cond.instanceMethod yX10_back ∈ zm_TW := (zm_t (zm_c6 36 rfl) rfl)
theorem zm_se_163 : Cond.selects (yX10_back).cls yX10_back yX10_back ∈ zm_TW := (zm_t (zm_c6 37 rfl) rfl)
theorem zm_im_164 : Cond.instanceMethod yX10_led ∈ zm_TW := (zm_t (zm_c6 56 rfl) rfl)
theorem zm_se_164 : Cond.selects (yX10_led).cls yX10_led yX10_led ∈ zm_TW := (zm_t (zm_c6 57 rfl) rfl)
theorem zm_im_165 : Cond.instanceMethod yX10_size ∈ zm_TW := (zm_t (zm_c6 44 rfl) rfl)
theorem zm_se_165 : Cond.selects (yX10_size).cls yX10_size yX10_size ∈ zm_TW := (zm_t (zm_c6 45 rfl) rfl)
theorem zm_im_166 : Cond.instanceMethod yX10_trouble ∈ zm_TW := (zm_t (zm_c6 48 rfl) rfl)
theorem zm_se_166 : Cond.selects (yX10_trouble).cls yX10_trouble yX10_trouble ∈ zm_TW := (zm_t (zm_c6 49 rfl) rfl)
theorem zm_im_167 : Cond.instanceMethod yX10_refuse ∈ zm_TW := (zm_t (zm_c3 9 rfl) rfl)
theorem zm_se_167 : Cond.selects (yX10_refuse).cls yX10_refuse yX10_refuse ∈ zm_TW := zm_ps (q := (yX10_refuse, 13)) (by decide +kernel)
theorem zm_im_168 : Cond.instanceMethod yX10_granted ∈ zm_TW := (zm_t (zm_c3 222 rfl) rfl)
theorem zm_se_168 : Cond.selects (yX10_granted).cls yX10_granted yX10_granted ∈ zm_TW := zm_ps (q := (yX10_granted, 13)) (by decide +kernel)
theorem zm_im_169 : Cond.instanceMethod yX10_grantedNumber ∈ zm_TW := (zm_t (zm_c5 180 rfl) rfl)
theorem zm_se_169 : Cond.selects (yX10_grantedNumber).cls yX10_grantedNumber yX10_grantedNumber ∈ zm_TW := zm_ps (q := (yX10_grantedNumber, 13)) (by decide +kernel)
theorem zm_im_170 : Cond.instanceMethod yX10_grantedRun ∈ zm_TW := (zm_t (zm_c5 175 rfl) rfl)
theorem zm_se_170 : Cond.selects (yX10_grantedRun).cls yX10_grantedRun yX10_grantedRun ∈ zm_TW := zm_ps (q := (yX10_grantedRun, 13)) (by decide +kernel)
theorem zm_im_171 : Cond.instanceMethod yX10_grantedUnknown ∈ zm_TW := (zm_t (zm_c5 81 rfl) rfl)
theorem zm_se_171 : Cond.selects (yX10_grantedUnknown).cls yX10_grantedUnknown yX10_grantedUnknown ∈ zm_TW := zm_ps (q := (yX10_grantedUnknown, 13)) (by decide +kernel)
theorem zm_im_172 : Cond.instanceMethod yX10_grantedThrow ∈ zm_TW := (zm_t (zm_c5 97 rfl) rfl)
theorem zm_se_172 : Cond.selects (yX10_grantedThrow).cls yX10_grantedThrow yX10_grantedThrow ∈ zm_TW := zm_ps (q := (yX10_grantedThrow, 13)) (by decide +kernel)
theorem zm_im_173 : Cond.instanceMethod yX10_areTwo ∈ zm_TW := (zm_t (zm_c5 21 rfl) rfl)
theorem zm_se_173 : Cond.selects (yX10_areTwo).cls yX10_areTwo yX10_areTwo ∈ zm_TW := zm_ps (q := (yX10_areTwo, 13)) (by decide +kernel)
theorem zm_im_174 : Cond.instanceMethod yX10_change ∈ zm_TW := (zm_t (zm_c5 220 rfl) rfl)
theorem zm_se_174 : Cond.selects (yX10_change).cls yX10_change yX10_change ∈ zm_TW := zm_ps (q := (yX10_change, 13)) (by decide +kernel)
theorem zm_im_176 : Cond.instanceMethod yX11_thrown ∈ zm_TW := (zm_t (zm_c7 2 rfl) rfl)
theorem zm_se_176 : Cond.selects (yX11_thrown).cls yX11_thrown yX11_thrown ∈ zm_TW := (zm_t (zm_c7 3 rfl) rfl)
theorem zm_im_177 : Cond.instanceMethod yX11_good ∈ zm_TW := (zm_t (zm_c7 15 rfl) rfl)
theorem zm_se_177 : Cond.selects (yX11_good).cls yX11_good yX11_good ∈ zm_TW := zm_ps (q := (yX11_good, 38)) (by decide +kernel)
theorem zm_im_178 : Cond.instanceMethod yX11_no ∈ zm_TW := (zm_t (zm_c7 22 rfl) rfl)
theorem zm_se_178 : Cond.selects (yX11_no).cls yX11_no yX11_no ∈ zm_TW := zm_ps (q := (yX11_no, 38)) (by decide +kernel)
theorem zm_im_179 : Cond.instanceMethod yX11_isNot ∈ zm_TW := (zm_t (zm_c9 50 rfl) rfl)
theorem zm_se_179 : Cond.selects (yX11_isNot).cls yX11_isNot yX11_isNot ∈ zm_TW := zm_ps (q := (yX11_isNot, 38)) (by decide +kernel)
theorem zm_im_185 : Cond.instanceMethod yX11_feed ∈ zm_TW := (zm_t (zm_c7 6 rfl) rfl)
theorem zm_se_185 : Cond.selects (yX11_feed).cls yX11_feed yX11_feed ∈ zm_TW := (zm_t (zm_c7 7 rfl) rfl)
theorem zm_im_186 : Cond.instanceMethod yX11_look ∈ zm_TW := (zm_t (zm_c7 30 rfl) rfl)
theorem zm_se_186 : Cond.selects (yX11_look).cls yX11_look yX11_look ∈ zm_TW := zm_ps (q := (yX11_look, 38)) (by decide +kernel)
theorem zm_im_189 : Cond.instanceMethod yX11_next ∈ zm_TW := (zm_t (zm_c7 26 rfl) rfl)
theorem zm_se_189 : Cond.selects (yX11_next).cls yX11_next yX11_next ∈ zm_TW := zm_ps (q := (yX11_next, 38)) (by decide +kernel)
theorem zm_im_190 : Cond.instanceMethod yX11_wrong ∈ zm_TW := (zm_t (zm_c7 55 rfl) rfl)
theorem zm_se_190 : Cond.selects (yX11_wrong).cls yX11_wrong yX11_wrong ∈ zm_TW := zm_ps (q := (yX11_wrong, 38)) (by decide +kernel)
theorem zm_im_191 : Cond.instanceMethod yX11_isWord ∈ zm_TW := (zm_t (zm_c7 45 rfl) rfl)
theorem zm_se_191 : Cond.selects (yX11_isWord).cls yX11_isWord yX11_isWord ∈ zm_TW := zm_ps (q := (yX11_isWord, 38)) (by decide +kernel)
theorem zm_im_192 : Cond.instanceMethod yX11_takesWord ∈ zm_TW := (zm_t (zm_c7 68 rfl) rfl)
theorem zm_se_192 : Cond.selects (yX11_takesWord).cls yX11_takesWord yX11_takesWord ∈ zm_TW := zm_ps (q := (yX11_takesWord, 38)) (by decide +kernel)
theorem zm_im_193 : Cond.instanceMethod yX11_must ∈ zm_TW := (zm_t (zm_c7 64 rfl) rfl)
theorem zm_se_193 : Cond.selects (yX11_must).cls yX11_must yX11_must ∈ zm_TW := zm_ps (q := (yX11_must, 38)) (by decide +kernel)
theorem zm_im_194 : Cond.instanceMethod yX11_mustName ∈ zm_TW := (zm_t (zm_c7 111 rfl) rfl)
theorem zm_se_194 : Cond.selects (yX11_mustName).cls yX11_mustName yX11_mustName ∈ zm_TW := zm_ps (q := (yX11_mustName, 38)) (by decide +kernel)
theorem zm_im_195 : Cond.instanceMethod yX11_newName ∈ zm_TW := (zm_t (zm_c7 107 rfl) rfl)
theorem zm_se_195 : Cond.selects (yX11_newName).cls yX11_newName yX11_newName ∈ zm_TW := zm_ps (q := (yX11_newName, 38)) (by decide +kernel)
theorem zm_im_196 : Cond.instanceMethod yX11_numberHere ∈ zm_TW := (zm_t (zm_c7 76 rfl) rfl)
theorem zm_se_196 : Cond.selects (yX11_numberHere).cls yX11_numberHere yX11_numberHere ∈ zm_TW := zm_ps (q := (yX11_numberHere, 38)) (by decide +kernel)
theorem zm_im_197 : Cond.instanceMethod yX11_number ∈ zm_TW := (zm_t (zm_c7 72 rfl) rfl)
theorem zm_se_197 : Cond.selects (yX11_number).cls yX11_number yX11_number ∈ zm_TW := zm_ps (q := (yX11_number, 38)) (by decide +kernel)
theorem zm_im_198 : Cond.instanceMethod yX11_after ∈ zm_TW := (zm_t (zm_c7 60 rfl) rfl)
theorem zm_se_198 : Cond.selects (yX11_after).cls yX11_after yX11_after ∈ zm_TW := zm_ps (q := (yX11_after, 38)) (by decide +kernel)
theorem zm_im_199 : Cond.instanceMethod yX11_column ∈ zm_TW := (zm_t (zm_c7 123 rfl) rfl)
theorem zm_se_199 : Cond.selects (yX11_column).cls yX11_column yX11_column ∈ zm_TW := zm_ps (q := (yX11_column, 38)) (by decide +kernel)
theorem zm_im_200 : Cond.instanceMethod yX11_hall ∈ zm_TW := (zm_t (zm_c7 10 rfl) rfl)
theorem zm_se_200 : Cond.selects (yX11_hall).cls yX11_hall yX11_hall ∈ zm_TW := (zm_t (zm_c7 11 rfl) rfl)
theorem zm_im_201 : Cond.instanceMethod yX11_begins ∈ zm_TW := (zm_t (zm_c7 83 rfl) rfl)
theorem zm_se_201 : Cond.selects (yX11_begins).cls yX11_begins yX11_begins ∈ zm_TW := zm_ps (q := (yX11_begins, 38)) (by decide +kernel)
theorem zm_im_202 : Cond.instanceMethod yX11_readLine ∈ zm_TW := (zm_t (zm_c7 40 rfl) rfl)
theorem zm_se_202 : Cond.selects (yX11_readLine).cls yX11_readLine yX11_readLine ∈ zm_TW := zm_ps (q := (yX11_readLine, 38)) (by decide +kernel)
theorem zm_im_203 : Cond.instanceMethod yX11_hallLine ∈ zm_TW := (zm_t (zm_c7 51 rfl) rfl)
theorem zm_se_203 : Cond.selects (yX11_hallLine).cls yX11_hallLine yX11_hallLine ∈ zm_TW := zm_ps (q := (yX11_hallLine, 38)) (by decide +kernel)
theorem zm_im_204 : Cond.instanceMethod yX11_newRow ∈ zm_TW := (zm_t (zm_c7 91 rfl) rfl)
theorem zm_se_204 : Cond.selects (yX11_newRow).cls yX11_newRow yX11_newRow ∈ zm_TW := zm_ps (q := (yX11_newRow, 38)) (by decide +kernel)
theorem zm_im_205 : Cond.instanceMethod yX11_airLine ∈ zm_TW := (zm_t (zm_c7 87 rfl) rfl)
theorem zm_se_205 : Cond.selects (yX11_airLine).cls yX11_airLine yX11_airLine ∈ zm_TW := zm_ps (q := (yX11_airLine, 38)) (by decide +kernel)
theorem zm_im_206 : Cond.instanceMethod yX11_fogLine ∈ zm_TW := (zm_t (zm_c7 98 rfl) rfl)
theorem zm_se_206 : Cond.selects (yX11_fogLine).cls yX11_fogLine yX11_fogLine ∈ zm_TW := zm_ps (q := (yX11_fogLine, 38)) (by decide +kernel)
theorem zm_im_207 : Cond.instanceMethod yX11_newPlace ∈ zm_TW := (zm_t (zm_c7 119 rfl) rfl)
theorem zm_se_207 : Cond.selects (yX11_newPlace).cls yX11_newPlace yX11_newPlace ∈ zm_TW := zm_ps (q := (yX11_newPlace, 38)) (by decide +kernel)
theorem zm_im_208 : Cond.instanceMethod yX11_speakerLine ∈ zm_TW := (zm_t (zm_c7 103 rfl) rfl)
theorem zm_se_208 : Cond.selects (yX11_speakerLine).cls yX11_speakerLine yX11_speakerLine ∈ zm_TW := zm_ps (q := (yX11_speakerLine, 38)) (by decide +kernel)
theorem zm_im_209 : Cond.instanceMethod yX11_memberLine ∈ zm_TW := (zm_t (zm_c7 127 rfl) rfl)
theorem zm_se_209 : Cond.selects (yX11_memberLine).cls yX11_memberLine yX11_memberLine ∈ zm_TW := zm_ps (q := (yX11_memberLine, 38)) (by decide +kernel)
theorem zm_im_210 : Cond.instanceMethod yX11_lampLine ∈ zm_TW := (zm_t (zm_c7 139 rfl) rfl)
theorem zm_se_210 : Cond.selects (yX11_lampLine).cls yX11_lampLine yX11_lampLine ∈ zm_TW := zm_ps (q := (yX11_lampLine, 38)) (by decide +kernel)
theorem zm_im_211 : Cond.instanceMethod yX11_flightLine ∈ zm_TW := (zm_t (zm_c7 143 rfl) rfl)
theorem zm_se_211 : Cond.selects (yX11_flightLine).cls yX11_flightLine yX11_flightLine ∈ zm_TW := zm_ps (q := (yX11_flightLine, 38)) (by decide +kernel)
theorem zm_im_212 : Cond.instanceMethod yX11_fault ∈ zm_TW := (zm_t (zm_c7 150 rfl) rfl)
theorem zm_se_212 : Cond.selects (yX11_fault).cls yX11_fault yX11_fault ∈ zm_TW := (zm_t (zm_c7 151 rfl) rfl)
theorem zm_im_213 : Cond.instanceMethod yX11_where ∈ zm_TW := (zm_t (zm_c7 154 rfl) rfl)
theorem zm_se_213 : Cond.selects (yX11_where).cls yX11_where yX11_where ∈ zm_TW := (zm_t (zm_c7 155 rfl) rfl)
theorem zm_im_214 : Cond.instanceMethod yX11_isSpeaker ∈ zm_TW := (zm_t (zm_c7 163 rfl) rfl)
theorem zm_se_214 : Cond.selects (yX11_isSpeaker).cls yX11_isSpeaker yX11_isSpeaker ∈ zm_TW := zm_ps (q := (yX11_isSpeaker, 38)) (by decide +kernel)
theorem zm_im_215 : Cond.instanceMethod yX11_isMember ∈ zm_TW := (zm_t (zm_c8 13 rfl) rfl)
theorem zm_se_215 : Cond.selects (yX11_isMember).cls yX11_isMember yX11_isMember ∈ zm_TW := zm_ps (q := (yX11_isMember, 38)) (by decide +kernel)
theorem zm_im_216 : Cond.instanceMethod yX11_isColumn ∈ zm_TW := (zm_t (zm_c8 33 rfl) rfl)
theorem zm_se_216 : Cond.selects (yX11_isColumn).cls yX11_isColumn yX11_isColumn ∈ zm_TW := zm_ps (q := (yX11_isColumn, 38)) (by decide +kernel)
theorem zm_im_217 : Cond.instanceMethod yX11_isRow ∈ zm_TW := (zm_t (zm_c8 25 rfl) rfl)
theorem zm_se_217 : Cond.selects (yX11_isRow).cls yX11_isRow yX11_isRow ∈ zm_TW := zm_ps (q := (yX11_isRow, 38)) (by decide +kernel)
theorem zm_im_218 : Cond.instanceMethod yX11_walled ∈ zm_TW := (zm_t (zm_c7 218 rfl) rfl)
theorem zm_se_218 : Cond.selects (yX11_walled).cls yX11_walled yX11_walled ∈ zm_TW := zm_ps (q := (yX11_walled, 38)) (by decide +kernel)
theorem zm_im_219 : Cond.instanceMethod yX11_layAirs ∈ zm_TW := (zm_t (zm_c7 198 rfl) rfl)
theorem zm_se_219 : Cond.selects (yX11_layAirs).cls yX11_layAirs yX11_layAirs ∈ zm_TW := zm_ps (q := (yX11_layAirs, 38)) (by decide +kernel)
theorem zm_im_221 : Cond.instanceMethod yX11_columnOf ∈ zm_TW := (zm_t (zm_c7 214 rfl) rfl)
theorem zm_se_221 : Cond.selects (yX11_columnOf).cls yX11_columnOf yX11_columnOf ∈ zm_TW := zm_ps (q := (yX11_columnOf, 38)) (by decide +kernel)
theorem zm_im_222 : Cond.instanceMethod yX11_foldOf ∈ zm_TW := (zm_t (zm_c7 202 rfl) rfl)
theorem zm_se_222 : Cond.selects (yX11_foldOf).cls yX11_foldOf yX11_foldOf ∈ zm_TW := zm_ps (q := (yX11_foldOf, 38)) (by decide +kernel)
theorem zm_im_223 : Cond.instanceMethod yX11_seatOf ∈ zm_TW := (zm_t (zm_c7 206 rfl) rfl)
theorem zm_se_223 : Cond.selects (yX11_seatOf).cls yX11_seatOf yX11_seatOf ∈ zm_TW := zm_ps (q := (yX11_seatOf, 38)) (by decide +kernel)
theorem zm_im_224 : Cond.instanceMethod yX11_farOf ∈ zm_TW := (zm_t (zm_c7 210 rfl) rfl)
theorem zm_se_224 : Cond.selects (yX11_farOf).cls yX11_farOf yX11_farOf ∈ zm_TW := zm_ps (q := (yX11_farOf, 38)) (by decide +kernel)
theorem zm_im_225 : Cond.instanceMethod yX11_sharpOf ∈ zm_TW := (zm_t (zm_c7 233 rfl) rfl)
theorem zm_se_225 : Cond.selects (yX11_sharpOf).cls yX11_sharpOf yX11_sharpOf ∈ zm_TW := zm_ps (q := (yX11_sharpOf, 38)) (by decide +kernel)
theorem zm_im_226 : Cond.instanceMethod yX11_errsOf ∈ zm_TW := (zm_t (zm_c8 17 rfl) rfl)
theorem zm_se_226 : Cond.selects (yX11_errsOf).cls yX11_errsOf yX11_errsOf ∈ zm_TW := zm_ps (q := (yX11_errsOf, 38)) (by decide +kernel)
theorem zm_im_227 : Cond.instanceMethod yX11_landsIn ∈ zm_TW := (zm_t (zm_c7 194 rfl) rfl)
theorem zm_se_227 : Cond.selects (yX11_landsIn).cls yX11_landsIn yX11_landsIn ∈ zm_TW := zm_ps (q := (yX11_landsIn, 38)) (by decide +kernel)
theorem zm_im_228 : Cond.instanceMethod yX11_landsAt ∈ zm_TW := (zm_t (zm_c7 222 rfl) rfl)
theorem zm_se_228 : Cond.selects (yX11_landsAt).cls yX11_landsAt yX11_landsAt ∈ zm_TW := zm_ps (q := (yX11_landsAt, 38)) (by decide +kernel)
theorem zm_im_229 : Cond.instanceMethod yX11_isLamp ∈ zm_TW := (zm_t (zm_c7 237 rfl) rfl)
theorem zm_se_229 : Cond.selects (yX11_isLamp).cls yX11_isLamp yX11_isLamp ∈ zm_TW := zm_ps (q := (yX11_isLamp, 38)) (by decide +kernel)
theorem zm_im_230 : Cond.instanceMethod yX11_laySpots ∈ zm_TW := (zm_t (zm_c7 171 rfl) rfl)
theorem zm_se_230 : Cond.selects (yX11_laySpots).cls yX11_laySpots yX11_laySpots ∈ zm_TW := zm_ps (q := (yX11_laySpots, 38)) (by decide +kernel)
theorem zm_im_231 : Cond.instanceMethod yX11_nearestTo ∈ zm_TW := (zm_t (zm_c8 1 rfl) rfl)
theorem zm_se_231 : Cond.selects (yX11_nearestTo).cls yX11_nearestTo yX11_nearestTo ∈ zm_TW := zm_ps (q := (yX11_nearestTo, 38)) (by decide +kernel)
theorem zm_im_232 : Cond.instanceMethod yX11_voteAt ∈ zm_TW := (zm_t (zm_c7 229 rfl) rfl)
theorem zm_se_232 : Cond.selects (yX11_voteAt).cls yX11_voteAt yX11_voteAt ∈ zm_TW := zm_ps (q := (yX11_voteAt, 38)) (by decide +kernel)
theorem zm_im_233 : Cond.instanceMethod yX11_voteOf ∈ zm_TW := (zm_t (zm_c7 190 rfl) rfl)
theorem zm_se_233 : Cond.selects (yX11_voteOf).cls yX11_voteOf yX11_voteOf ∈ zm_TW := zm_ps (q := (yX11_voteOf, 38)) (by decide +kernel)
theorem zm_im_234 : Cond.instanceMethod yX11_noVotes ∈ zm_TW := (zm_t (zm_c7 183 rfl) rfl)
theorem zm_se_234 : Cond.selects (yX11_noVotes).cls yX11_noVotes yX11_noVotes ∈ zm_TW := zm_ps (q := (yX11_noVotes, 38)) (by decide +kernel)
theorem zm_im_235 : Cond.instanceMethod yX11_winnerOf ∈ zm_TW := (zm_t (zm_c8 53 rfl) rfl)
theorem zm_se_235 : Cond.selects (yX11_winnerOf).cls yX11_winnerOf yX11_winnerOf ∈ zm_TW := zm_ps (q := (yX11_winnerOf, 38)) (by decide +kernel)
theorem zm_im_236 : Cond.instanceMethod yX11_throwsOf ∈ zm_TW := (zm_t (zm_c7 179 rfl) rfl)
theorem zm_se_236 : Cond.selects (yX11_throwsOf).cls yX11_throwsOf yX11_throwsOf ∈ zm_TW := zm_ps (q := (yX11_throwsOf, 38)) (by decide +kernel)
theorem zm_im_237 : Cond.instanceMethod yX11_allMembers ∈ zm_TW := (zm_t (zm_c7 175 rfl) rfl)
theorem zm_se_237 : Cond.selects (yX11_allMembers).cls yX11_allMembers yX11_allMembers ∈ zm_TW := zm_ps (q := (yX11_allMembers, 38)) (by decide +kernel)
theorem zm_im_238 : Cond.instanceMethod yX11_throwAll ∈ zm_TW := (zm_t (zm_c7 167 rfl) rfl)
theorem zm_se_238 : Cond.selects (yX11_throwAll).cls yX11_throwAll yX11_throwAll ∈ zm_TW := zm_ps (q := (yX11_throwAll, 38)) (by decide +kernel)
theorem zm_im_239 : Cond.instanceMethod yX11_speaker ∈ zm_TW := (zm_t (zm_c7 158 rfl) rfl)
theorem zm_se_239 : Cond.selects (yX11_speaker).cls yX11_speaker yX11_speaker ∈ zm_TW := (zm_t (zm_c7 159 rfl) rfl)
theorem zm_im_240 : Cond.instanceMethod yX11_member ∈ zm_TW := (zm_t (zm_c8 8 rfl) rfl)
theorem zm_se_240 : Cond.selects (yX11_member).cls yX11_member yX11_member ∈ zm_TW := (zm_t (zm_c8 9 rfl) rfl)
theorem zm_im_241 : Cond.instanceMethod yX11_air ∈ zm_TW := (zm_t (zm_c8 20 rfl) rfl)
theorem zm_se_241 : Cond.selects (yX11_air).cls yX11_air yX11_air ∈ zm_TW := (zm_t (zm_c8 21 rfl) rfl)
theorem zm_im_242 : Cond.instanceMethod yX11_lamp ∈ zm_TW := (zm_t (zm_c8 28 rfl) rfl)
theorem zm_se_242 : Cond.selects (yX11_lamp).cls yX11_lamp yX11_lamp ∈ zm_TW := (zm_t (zm_c8 29 rfl) rfl)
theorem zm_im_243 : Cond.instanceMethod yX11_lands ∈ zm_TW := (zm_t (zm_c8 36 rfl) rfl)
theorem zm_se_243 : Cond.selects (yX11_lands).cls yX11_lands yX11_lands ∈ zm_TW := (zm_t (zm_c8 37 rfl) rfl)
theorem zm_im_244 : Cond.instanceMethod yX11_votes ∈ zm_TW := (zm_t (zm_c8 40 rfl) rfl)
theorem zm_se_244 : Cond.selects (yX11_votes).cls yX11_votes yX11_votes ∈ zm_TW := (zm_t (zm_c8 41 rfl) rfl)
theorem zm_im_245 : Cond.instanceMethod yX11_nearest ∈ zm_TW := (zm_t (zm_c8 44 rfl) rfl)
theorem zm_se_245 : Cond.selects (yX11_nearest).cls yX11_nearest yX11_nearest ∈ zm_TW := (zm_t (zm_c8 45 rfl) rfl)
theorem zm_im_246 : Cond.instanceMethod yX11_winner ∈ zm_TW := (zm_t (zm_c8 48 rfl) rfl)
theorem zm_se_246 : Cond.selects (yX11_winner).cls yX11_winner yX11_winner ∈ zm_TW := (zm_t (zm_c8 49 rfl) rfl)
theorem zm_im_247 : Cond.instanceMethod yX11_counted ∈ zm_TW := (zm_t (zm_c8 56 rfl) rfl)
theorem zm_se_247 : Cond.selects (yX11_counted).cls yX11_counted yX11_counted ∈ zm_TW := (zm_t (zm_c8 57 rfl) rfl)
theorem zm_im_248 : Cond.instanceMethod yX11_hang ∈ zm_TW := (zm_t (zm_c8 60 rfl) rfl)
theorem zm_se_248 : Cond.selects (yX11_hang).cls yX11_hang yX11_hang ∈ zm_TW := (zm_t (zm_c8 61 rfl) rfl)
theorem zm_im_249 : Cond.instanceMethod yX11_thickest ∈ zm_TW := (zm_t (zm_c8 64 rfl) rfl)
theorem zm_se_249 : Cond.selects (yX11_thickest).cls yX11_thickest yX11_thickest ∈ zm_TW := (zm_t (zm_c8 65 rfl) rfl)
theorem zm_im_250 : Cond.instanceMethod yX11_weightOf ∈ zm_TW := (zm_t (zm_c8 81 rfl) rfl)
theorem zm_se_250 : Cond.selects (yX11_weightOf).cls yX11_weightOf yX11_weightOf ∈ zm_TW := zm_ps (q := (yX11_weightOf, 38)) (by decide +kernel)
theorem zm_im_251 : Cond.instanceMethod yX11_likelyBy ∈ zm_TW := (zm_t (zm_c8 77 rfl) rfl)
theorem zm_se_251 : Cond.selects (yX11_likelyBy).cls yX11_likelyBy yX11_likelyBy ∈ zm_TW := zm_ps (q := (yX11_likelyBy, 38)) (by decide +kernel)
theorem zm_im_252 : Cond.instanceMethod yX11_likelyNow ∈ zm_TW := (zm_t (zm_c8 73 rfl) rfl)
theorem zm_se_252 : Cond.selects (yX11_likelyNow).cls yX11_likelyNow yX11_likelyNow ∈ zm_TW := zm_ps (q := (yX11_likelyNow, 38)) (by decide +kernel)
theorem zm_im_253 : Cond.instanceMethod yX11_likely ∈ zm_TW := (zm_t (zm_c8 68 rfl) rfl)
theorem zm_se_253 : Cond.selects (yX11_likely).cls yX11_likely yX11_likely ∈ zm_TW := (zm_t (zm_c8 69 rfl) rfl)
theorem zm_im_254 : Cond.instanceMethod yX11_tryErrors ∈ zm_TW := (zm_t (zm_c8 97 rfl) rfl)
theorem zm_se_254 : Cond.selects (yX11_tryErrors).cls yX11_tryErrors yX11_tryErrors ∈ zm_TW := zm_ps (q := (yX11_tryErrors, 38)) (by decide +kernel)
theorem zm_im_256 : Cond.instanceMethod yX11_winsOf ∈ zm_TW := (zm_t (zm_c8 93 rfl) rfl)
theorem zm_se_256 : Cond.selects (yX11_winsOf).cls yX11_winsOf yX11_winsOf ∈ zm_TW := zm_ps (q := (yX11_winsOf, 38)) (by decide +kernel)
theorem zm_im_257 : Cond.instanceMethod yX11_wins ∈ zm_TW := (zm_t (zm_c8 88 rfl) rfl)
theorem zm_se_257 : Cond.selects (yX11_wins).cls yX11_wins yX11_wins ∈ zm_TW := (zm_t (zm_c8 89 rfl) rfl)
theorem zm_im_258 : Cond.instanceMethod yX11_just ∈ zm_TW := (zm_t (zm_c8 103 rfl) rfl)
theorem zm_se_258 : Cond.selects (yX11_just).cls yX11_just yX11_just ∈ zm_TW := (zm_t (zm_c8 104 rfl) rfl)
theorem zm_im_259 : Cond.instanceMethod yX11_mean ∈ zm_TW := (zm_t (zm_c8 107 rfl) rfl)
theorem zm_se_259 : Cond.selects (yX11_mean).cls yX11_mean yX11_mean ∈ zm_TW := (zm_t (zm_c8 108 rfl) rfl)
theorem zm_im_260 : Cond.instanceMethod yX11_favourite ∈ zm_TW := (zm_t (zm_c8 111 rfl) rfl)
theorem zm_se_260 : Cond.selects (yX11_favourite).cls yX11_favourite yX11_favourite ∈ zm_TW := (zm_t (zm_c8 112 rfl) rfl)
theorem zm_im_261 : Cond.instanceMethod yX11_foldFor ∈ zm_TW := (zm_t (zm_c8 120 rfl) rfl)
theorem zm_se_261 : Cond.selects (yX11_foldFor).cls yX11_foldFor yX11_foldFor ∈ zm_TW := zm_ps (q := (yX11_foldFor, 38)) (by decide +kernel)
theorem zm_im_262 : Cond.instanceMethod yX11_bestFold ∈ zm_TW := (zm_t (zm_c8 115 rfl) rfl)
theorem zm_se_262 : Cond.selects (yX11_bestFold).cls yX11_bestFold yX11_bestFold ∈ zm_TW := (zm_t (zm_c8 116 rfl) rfl)
theorem zm_im_263 : Cond.instanceMethod yX11_bestLikely ∈ zm_TW := (zm_t (zm_c8 123 rfl) rfl)
theorem zm_se_263 : Cond.selects (yX11_bestLikely).cls yX11_bestLikely yX11_bestLikely ∈ zm_TW := (zm_t (zm_c8 124 rfl) rfl)
theorem zm_im_264 : Cond.instanceMethod yX11_bestSeat ∈ zm_TW := (zm_t (zm_c8 127 rfl) rfl)
theorem zm_se_264 : Cond.selects (yX11_bestSeat).cls yX11_bestSeat yX11_bestSeat ∈ zm_TW := (zm_t (zm_c8 128 rfl) rfl)
theorem zm_im_265 : Cond.instanceMethod yX11_isTaken ∈ zm_TW := (zm_t (zm_c8 140 rfl) rfl)
theorem zm_se_265 : Cond.selects (yX11_isTaken).cls yX11_isTaken yX11_isTaken ∈ zm_TW := zm_ps (q := (yX11_isTaken, 38)) (by decide +kernel)
theorem zm_im_266 : Cond.instanceMethod yX11_placeFor ∈ zm_TW := (zm_t (zm_c8 136 rfl) rfl)
theorem zm_se_266 : Cond.selects (yX11_placeFor).cls yX11_placeFor yX11_placeFor ∈ zm_TW := zm_ps (q := (yX11_placeFor, 38)) (by decide +kernel)
theorem zm_im_267 : Cond.instanceMethod yX11_place ∈ zm_TW := (zm_t (zm_c8 131 rfl) rfl)
theorem zm_se_267 : Cond.selects (yX11_place).cls yX11_place yX11_place ∈ zm_TW := (zm_t (zm_c8 132 rfl) rfl)
theorem zm_im_268 : Cond.instanceMethod yX11_placeVotes ∈ zm_TW := (zm_t (zm_c8 143 rfl) rfl)
theorem zm_se_268 : Cond.selects (yX11_placeVotes).cls yX11_placeVotes yX11_placeVotes ∈ zm_TW := (zm_t (zm_c8 144 rfl) rfl)
theorem zm_im_269 : Cond.instanceMethod yX11_standsAt ∈ zm_TW := (zm_t (zm_c8 156 rfl) rfl)
theorem zm_se_269 : Cond.selects (yX11_standsAt).cls yX11_standsAt yX11_standsAt ∈ zm_TW := zm_ps (q := (yX11_standsAt, 38)) (by decide +kernel)
theorem zm_im_270 : Cond.instanceMethod yX11_areTwo ∈ zm_TW := (zm_t (zm_c8 152 rfl) rfl)
theorem zm_se_270 : Cond.selects (yX11_areTwo).cls yX11_areTwo yX11_areTwo ∈ zm_TW := zm_ps (q := (yX11_areTwo, 38)) (by decide +kernel)
theorem zm_im_271 : Cond.instanceMethod yX11_game ∈ zm_TW := (zm_t (zm_c8 147 rfl) rfl)
theorem zm_se_271 : Cond.selects (yX11_game).cls yX11_game yX11_game ∈ zm_TW := (zm_t (zm_c8 148 rfl) rfl)
theorem zm_im_272 : Cond.instanceMethod yX11_seekRests ∈ zm_TW := (zm_t (zm_c8 164 rfl) rfl)
theorem zm_se_272 : Cond.selects (yX11_seekRests).cls yX11_seekRests yX11_seekRests ∈ zm_TW := zm_ps (q := (yX11_seekRests, 38)) (by decide +kernel)
theorem zm_im_273 : Cond.instanceMethod yX11_rests ∈ zm_TW := (zm_t (zm_c8 159 rfl) rfl)
theorem zm_se_273 : Cond.selects (yX11_rests).cls yX11_rests yX11_rests ∈ zm_TW := (zm_t (zm_c8 160 rfl) rfl)
theorem zm_im_274 : Cond.instanceMethod yX11_rest ∈ zm_TW := (zm_t (zm_c8 167 rfl) rfl)
theorem zm_se_274 : Cond.selects (yX11_rest).cls yX11_rest yX11_rest ∈ zm_TW := (zm_t (zm_c8 168 rfl) rfl)
theorem zm_im_275 : Cond.instanceMethod yX11_unknownRows ∈ zm_TW := (zm_t (zm_c8 184 rfl) rfl)
theorem zm_se_275 : Cond.selects (yX11_unknownRows).cls yX11_unknownRows yX11_unknownRows ∈ zm_TW := zm_ps (q := (yX11_unknownRows, 38)) (by decide +kernel)
theorem zm_im_276 : Cond.instanceMethod yX11_codes ∈ zm_TW := (zm_t (zm_c8 180 rfl) rfl)
theorem zm_se_276 : Cond.selects (yX11_codes).cls yX11_codes yX11_codes ∈ zm_TW := zm_ps (q := (yX11_codes, 38)) (by decide +kernel)
theorem zm_im_277 : Cond.instanceMethod yX11_layCode ∈ zm_TW := (zm_t (zm_c8 192 rfl) rfl)
theorem zm_se_277 : Cond.selects (yX11_layCode).cls yX11_layCode yX11_layCode ∈ zm_TW := zm_ps (q := (yX11_layCode, 38)) (by decide +kernel)
theorem zm_im_278 : Cond.instanceMethod yX11_wrongFlight ∈ zm_TW := (zm_t (zm_c8 196 rfl) rfl)
theorem zm_se_278 : Cond.selects (yX11_wrongFlight).cls yX11_wrongFlight yX11_wrongFlight ∈ zm_TW := zm_ps (q := (yX11_wrongFlight, 38)) (by decide +kernel)
theorem zm_im_279 : Cond.instanceMethod yX11_doesFit ∈ zm_TW := (zm_t (zm_c8 188 rfl) rfl)
theorem zm_se_279 : Cond.selects (yX11_doesFit).cls yX11_doesFit yX11_doesFit ∈ zm_TW := zm_ps (q := (yX11_doesFit, 38)) (by decide +kernel)
theorem zm_im_280 : Cond.instanceMethod yX11_fitting ∈ zm_TW := (zm_t (zm_c8 176 rfl) rfl)
theorem zm_se_280 : Cond.selects (yX11_fitting).cls yX11_fitting yX11_fitting ∈ zm_TW := zm_ps (q := (yX11_fitting, 38)) (by decide +kernel)
theorem zm_im_281 : Cond.instanceMethod yX11_airs ∈ zm_TW := (zm_t (zm_c8 171 rfl) rfl)
theorem zm_se_281 : Cond.selects (yX11_airs).cls yX11_airs yX11_airs ∈ zm_TW := (zm_t (zm_c8 172 rfl) rfl)
theorem zm_im_282 : Cond.instanceMethod yX11_rowWhy ∈ zm_TW := (zm_t (zm_c8 204 rfl) rfl)
theorem zm_se_282 : Cond.selects (yX11_rowWhy).cls yX11_rowWhy yX11_rowWhy ∈ zm_TW := zm_ps (q := (yX11_rowWhy, 38)) (by decide +kernel)
theorem zm_im_283 : Cond.instanceMethod yX11_driftsOf ∈ zm_TW := (zm_t (zm_c8 208 rfl) rfl)
theorem zm_se_283 : Cond.selects (yX11_driftsOf).cls yX11_driftsOf yX11_driftsOf ∈ zm_TW := zm_ps (q := (yX11_driftsOf, 38)) (by decide +kernel)
theorem zm_im_284 : Cond.instanceMethod yX11_could ∈ zm_TW := (zm_t (zm_c8 199 rfl) rfl)
theorem zm_se_284 : Cond.selects (yX11_could).cls yX11_could yX11_could ∈ zm_TW := (zm_t (zm_c8 200 rfl) rfl)
theorem zm_im_285 : Cond.instanceMethod yX11_surely ∈ zm_TW := (zm_t (zm_c8 211 rfl) rfl)
theorem zm_se_285 : Cond.selects (yX11_surely).cls yX11_surely yX11_surely ∈ zm_TW := (zm_t (zm_c8 212 rfl) rfl)
theorem zm_im_286 : Cond.instanceMethod yX11_leavesBy ∈ zm_TW := (zm_t (zm_c8 228 rfl) rfl)
theorem zm_se_286 : Cond.selects (yX11_leavesBy).cls yX11_leavesBy yX11_leavesBy ∈ zm_TW := zm_ps (q := (yX11_leavesBy, 38)) (by decide +kernel)
theorem zm_im_287 : Cond.instanceMethod yX11_throwFor ∈ zm_TW := (zm_t (zm_c8 224 rfl) rfl)
theorem zm_se_287 : Cond.selects (yX11_throwFor).cls yX11_throwFor yX11_throwFor ∈ zm_TW := zm_ps (q := (yX11_throwFor, 38)) (by decide +kernel)
theorem zm_im_288 : Cond.instanceMethod yX11_throwWhy ∈ zm_TW := (zm_t (zm_c8 220 rfl) rfl)
theorem zm_se_288 : Cond.selects (yX11_throwWhy).cls yX11_throwWhy yX11_throwWhy ∈ zm_TW := zm_ps (q := (yX11_throwWhy, 38)) (by decide +kernel)
theorem zm_im_289 : Cond.instanceMethod yX11_toThrow ∈ zm_TW := (zm_t (zm_c8 215 rfl) rfl)
theorem zm_se_289 : Cond.selects (yX11_toThrow).cls yX11_toThrow yX11_toThrow ∈ zm_TW := (zm_t (zm_c8 216 rfl) rfl)
theorem zm_im_290 : Cond.instanceMethod yX11_throwLeaves ∈ zm_TW := (zm_t (zm_c8 231 rfl) rfl)
theorem zm_se_290 : Cond.selects (yX11_throwLeaves).cls yX11_throwLeaves yX11_throwLeaves ∈ zm_TW := (zm_t (zm_c8 232 rfl) rfl)
theorem zm_im_291 : Cond.instanceMethod yX11_judge ∈ zm_TW := (zm_t (zm_c8 235 rfl) rfl)
theorem zm_se_291 : Cond.selects (yX11_judge).cls yX11_judge yX11_judge ∈ zm_TW := (zm_t (zm_c8 236 rfl) rfl)
theorem zm_im_292 : Cond.instanceMethod yX11_powerOf ∈ zm_TW := (zm_t (zm_c9 4 rfl) rfl)
theorem zm_se_292 : Cond.selects (yX11_powerOf).cls yX11_powerOf yX11_powerOf ∈ zm_TW := zm_ps (q := (yX11_powerOf, 38)) (by decide +kernel)
theorem zm_im_293 : Cond.instanceMethod yX11_power ∈ zm_TW := (zm_t (zm_c8 239 rfl) rfl)
theorem zm_se_293 : Cond.selects (yX11_power).cls yX11_power yX11_power ∈ zm_TW := (zm_t (zm_c9 0 rfl) rfl)
theorem zm_im_294 : Cond.instanceMethod yX11_mighty ∈ zm_TW := (zm_t (zm_c9 7 rfl) rfl)
theorem zm_se_294 : Cond.selects (yX11_mighty).cls yX11_mighty yX11_mighty ∈ zm_TW := (zm_t (zm_c9 8 rfl) rfl)
theorem zm_im_295 : Cond.instanceMethod yX11_tryRake ∈ zm_TW := (zm_t (zm_c9 16 rfl) rfl)
theorem zm_se_295 : Cond.selects (yX11_tryRake).cls yX11_tryRake yX11_tryRake ∈ zm_TW := zm_ps (q := (yX11_tryRake, 38)) (by decide +kernel)
theorem zm_im_296 : Cond.instanceMethod yX11_rake ∈ zm_TW := (zm_t (zm_c9 11 rfl) rfl)
theorem zm_se_296 : Cond.selects (yX11_rake).cls yX11_rake yX11_rake ∈ zm_TW := (zm_t (zm_c9 12 rfl) rfl)
theorem zm_im_297 : Cond.instanceMethod yX11_sessionOf ∈ zm_TW := (zm_t (zm_c9 29 rfl) rfl)
theorem zm_se_297 : Cond.selects (yX11_sessionOf).cls yX11_sessionOf yX11_sessionOf ∈ zm_TW := zm_ps (q := (yX11_sessionOf, 38)) (by decide +kernel)
theorem zm_im_298 : Cond.instanceMethod yX11_sessionWhy ∈ zm_TW := (zm_t (zm_c9 24 rfl) rfl)
theorem zm_se_298 : Cond.selects (yX11_sessionWhy).cls yX11_sessionWhy yX11_sessionWhy ∈ zm_TW := zm_ps (q := (yX11_sessionWhy, 38)) (by decide +kernel)
theorem zm_im_299 : Cond.instanceMethod yX11_sessions ∈ zm_TW := (zm_t (zm_c9 19 rfl) rfl)
theorem zm_se_299 : Cond.selects (yX11_sessions).cls yX11_sessions yX11_sessions ∈ zm_TW := (zm_t (zm_c9 20 rfl) rfl)
theorem zm_im_300 : Cond.instanceMethod yX11_darts ∈ zm_TW := (zm_t (zm_c9 33 rfl) rfl)
theorem zm_se_300 : Cond.selects (yX11_darts).cls yX11_darts yX11_darts ∈ zm_TW := (zm_t (zm_c9 34 rfl) rfl)
theorem zm_im_301 : Cond.instanceMethod yX11_lucky ∈ zm_TW := (zm_t (zm_c9 37 rfl) rfl)
theorem zm_se_301 : Cond.selects (yX11_lucky).cls yX11_lucky yX11_lucky ∈ zm_TW := (zm_t (zm_c9 38 rfl) rfl)
theorem zm_im_302 : Cond.instanceMethod yX11_note ∈ zm_TW := (zm_t (zm_c9 54 rfl) rfl)
theorem zm_se_302 : Cond.selects (yX11_note).cls yX11_note yX11_note ∈ zm_TW := zm_ps (q := (yX11_note, 38)) (by decide +kernel)
theorem zm_im_303 : Cond.instanceMethod yX11_becomes ∈ zm_TW := (zm_t (zm_c9 46 rfl) rfl)
theorem zm_se_303 : Cond.selects (yX11_becomes).cls yX11_becomes yX11_becomes ∈ zm_TW := zm_ps (q := (yX11_becomes, 38)) (by decide +kernel)
theorem zm_im_304 : Cond.instanceMethod yX11_sit ∈ zm_TW := (zm_t (zm_c9 41 rfl) rfl)
theorem zm_se_304 : Cond.selects (yX11_sit).cls yX11_sit yX11_sit ∈ zm_TW := (zm_t (zm_c9 42 rfl) rfl)
theorem zm_im_305 : Cond.instanceMethod yX11_fold ∈ zm_TW := (zm_t (zm_c9 57 rfl) rfl)
theorem zm_se_305 : Cond.selects (yX11_fold).cls yX11_fold yX11_fold ∈ zm_TW := (zm_t (zm_c9 58 rfl) rfl)
theorem zm_im_306 : Cond.instanceMethod yX11_aim ∈ zm_TW := (zm_t (zm_c9 61 rfl) rfl)
theorem zm_se_306 : Cond.selects (yX11_aim).cls yX11_aim yX11_aim ∈ zm_TW := (zm_t (zm_c9 62 rfl) rfl)
theorem zm_im_307 : Cond.instanceMethod yX11_warm ∈ zm_TW := (zm_t (zm_c9 65 rfl) rfl)
theorem zm_se_307 : Cond.selects (yX11_warm).cls yX11_warm yX11_warm ∈ zm_TW := (zm_t (zm_c9 66 rfl) rfl)
theorem zm_im_308 : Cond.instanceMethod yX11_stand ∈ zm_TW := (zm_t (zm_c9 69 rfl) rfl)
theorem zm_se_308 : Cond.selects (yX11_stand).cls yX11_stand yX11_stand ∈ zm_TW := (zm_t (zm_c9 70 rfl) rfl)
theorem zm_im_309 : Cond.instanceMethod yX11_session ∈ zm_TW := (zm_t (zm_c9 73 rfl) rfl)
theorem zm_se_309 : Cond.selects (yX11_session).cls yX11_session yX11_session ∈ zm_TW := (zm_t (zm_c9 74 rfl) rfl)
theorem zm_im_310 : Cond.instanceMethod yX11_seed ∈ zm_TW := (zm_t (zm_c9 77 rfl) rfl)
theorem zm_se_310 : Cond.selects (yX11_seed).cls yX11_seed yX11_seed ∈ zm_TW := (zm_t (zm_c9 78 rfl) rfl)
theorem zm_im_311 : Cond.instanceMethod yX11_undo ∈ zm_TW := (zm_t (zm_c9 81 rfl) rfl)
theorem zm_se_311 : Cond.selects (yX11_undo).cls yX11_undo yX11_undo ∈ zm_TW := (zm_t (zm_c9 82 rfl) rfl)
theorem zm_im_312 : Cond.instanceMethod yX11_image ∈ zm_TW := (zm_t (zm_c9 85 rfl) rfl)
theorem zm_se_312 : Cond.selects (yX11_image).cls yX11_image yX11_image ∈ zm_TW := (zm_t (zm_c9 86 rfl) rfl)
theorem zm_im_313 : Cond.instanceMethod yX11_back ∈ zm_TW := (zm_t (zm_c9 89 rfl) rfl)
theorem zm_se_313 : Cond.selects (yX11_back).cls yX11_back yX11_back ∈ zm_TW := (zm_t (zm_c9 90 rfl) rfl)
theorem zm_im_314 : Cond.instanceMethod yX11_led ∈ zm_TW := (zm_t (zm_c9 93 rfl) rfl)
theorem zm_se_314 : Cond.selects (yX11_led).cls yX11_led yX11_led ∈ zm_TW := (zm_t (zm_c9 94 rfl) rfl)
theorem zm_im_315 : Cond.instanceMethod yX11_size ∈ zm_TW := (zm_t (zm_c9 97 rfl) rfl)
theorem zm_se_315 : Cond.selects (yX11_size).cls yX11_size yX11_size ∈ zm_TW := (zm_t (zm_c9 98 rfl) rfl)
theorem zm_im_316 : Cond.instanceMethod yX11_trouble ∈ zm_TW := (zm_t (zm_c9 101 rfl) rfl)
theorem zm_se_316 : Cond.selects (yX11_trouble).cls yX11_trouble yX11_trouble ∈ zm_TW := (zm_t (zm_c9 102 rfl) rfl)
theorem zm_st_33 : Cond.static yX3_rowBy ∈ zm_TW := (zm_t (zm_c4 15 rfl) rfl)
theorem zm_st_37 : Cond.static yX3_nearestBy ∈ zm_TW := (zm_t (zm_c4 31 rfl) rfl)
theorem zm_st_43 : Cond.static yX3_firstOfMost ∈ zm_TW := (zm_t (zm_c4 96 rfl) rfl)
theorem zm_st_48 : Cond.static yX4_allParts ∈ zm_TW := (zm_t (zm_c4 175 rfl) rfl)
theorem zm_st_49 : Cond.static yX4_inLowestTerms ∈ zm_TW := (zm_t (zm_c4 143 rfl) rfl)
theorem zm_st_50 : Cond.static yX4_commonDivisor ∈ zm_TW := (zm_t (zm_c4 146 rfl) rfl)
theorem zm_st_71 : Cond.static yX6_mayStand ∈ zm_TW := (zm_t (zm_c4 237 rfl) rfl)
theorem zm_st_180 : Cond.static yX11_in ∈ zm_TW := (zm_t (zm_c7 18 rfl) rfl)
theorem zm_st_181 : Cond.static yX11_hasBit ∈ zm_TW := (zm_t (zm_c7 186 rfl) rfl)
theorem zm_st_182 : Cond.static yX11_apart ∈ zm_TW := (zm_t (zm_c8 5 rfl) rfl)
theorem zm_st_183 : Cond.static yX11_copy ∈ zm_TW := (zm_t (zm_c7 147 rfl) rfl)
theorem zm_st_184 : Cond.static yX11_lowest ∈ zm_TW := (zm_t (zm_c8 85 rfl) rfl)
theorem zm_st_187 : Cond.static yX11_isSmall ∈ zm_TW := (zm_t (zm_c7 33 rfl) rfl)
theorem zm_st_188 : Cond.static yX11_isDigit ∈ zm_TW := (zm_t (zm_c7 36 rfl) rfl)
theorem zm_st_220 : Cond.static yX11_rowOf ∈ zm_TW := (zm_t (zm_c7 225 rfl) rfl)
theorem zm_st_255 : Cond.static yX11_wholes ∈ zm_TW := (zm_t (zm_c8 100 rfl) rfl)
theorem zm_st_317 : Cond.static yL_led ∈ zm_TW := (zm_t (zm_c6 52 rfl) rfl)
theorem zm_im_0 : Cond.instanceMethod yX0_init ∈ zm_TW := (zm_t (zm_c1 144 rfl) rfl)
theorem zm_im_3 : Cond.instanceMethod yX1_init ∈ zm_TW := (zm_t (zm_c2 54 rfl) rfl)
theorem zm_im_9 : Cond.instanceMethod yX2_init ∈ zm_TW := (zm_t (zm_c1 230 rfl) rfl)
theorem zm_im_19 : Cond.instanceMethod yX3_init ∈ zm_TW := (zm_t (zm_c2 88 rfl) rfl)
theorem zm_im_47 : Cond.instanceMethod yX4_init ∈ zm_TW := (zm_t (zm_c1 138 rfl) rfl)
theorem zm_im_57 : Cond.instanceMethod yX5_init ∈ zm_TW := (zm_t (zm_c1 113 rfl) rfl)
theorem zm_im_64 : Cond.instanceMethod yX6_init ∈ zm_TW := (zm_t (zm_c1 181 rfl) rfl)
theorem zm_im_76 : Cond.instanceMethod yX7_init ∈ zm_TW := (zm_t (zm_c1 34 rfl) rfl)
theorem zm_im_97 : Cond.instanceMethod yX8_init ∈ zm_TW := (zm_t (zm_c2 35 rfl) rfl)
theorem zm_im_105 : Cond.instanceMethod yX9_init ∈ zm_TW := (zm_t (zm_c1 40 rfl) rfl)
theorem zm_im_113 : Cond.instanceMethod yX10_init ∈ zm_TW := (zm_t (zm_c1 26 rfl) rfl)
theorem zm_im_175 : Cond.instanceMethod yX11_init ∈ zm_TW := (zm_t (zm_c6 123 rfl) rfl)
def zm_lk_0 : List zm_LK := [(3, 3, 0, Lib.objectInit), (21, 0, 34, yX3_dartColumn), (25, 0, 35, yX3_dartRow), (28, 0, 31, yX3_withinWalls), (31, 0, 39, yX3_ballotAt)]
set_option maxRecDepth 20000 in
theorem zm_lo_0 : ∀ e ∈ zm_lk_0, zm_okL RX0 e := List.forall_mem_cons.mpr ⟨zm_l3 (zm_t (zm_c1 146 rfl) rfl) (by decide), List.forall_mem_cons.mpr ⟨zm_l0 (zm_t (zm_c4 160 rfl) rfl) zm_im_34 zm_se_34, List.forall_mem_cons.mpr ⟨zm_l0 (zm_t (zm_c4 161 rfl) rfl) zm_im_35 zm_se_35, List.forall_mem_cons.mpr ⟨zm_l0 (zm_t (zm_c4 162 rfl) rfl) zm_im_31 zm_se_31, List.forall_mem_cons.mpr ⟨zm_l0 (zm_t (zm_c4 163 rfl) rfl) zm_im_39 zm_se_39, List.forall_mem_nil _⟩⟩⟩⟩⟩
def zm_lk_1 : List zm_LK := [(3, 3, 0, Lib.objectInit), (11, 2, 0, yX0_init), (38, 0, 5, yX1_begin), (46, 0, 1, yX0_castAll), (42, 0, 6, yX1_holdOne), (58, 0, 8, yX1_errorOf), (62, 0, 2, yX0_castBy), (69, 1, 43, yX3_firstOfMost), (73, 0, 7, yX1_praise)]
set_option maxRecDepth 20000 in
theorem zm_lo_1 : ∀ e ∈ zm_lk_1, zm_okL RX1 e := List.forall_mem_cons.mpr ⟨zm_l3 (zm_t (zm_c2 56 rfl) rfl) (by decide), List.forall_mem_cons.mpr ⟨zm_l2 (zm_t (zm_c2 58 rfl) rfl) zm_im_0 rfl, List.forall_mem_cons.mpr ⟨zm_l0 (zm_t (zm_c5 186 rfl) rfl) zm_im_5 zm_se_5, List.forall_mem_cons.mpr ⟨zm_l0 (zm_t (zm_c5 190 rfl) rfl) zm_im_1 zm_se_1, List.forall_mem_cons.mpr ⟨zm_l0 (zm_t (zm_c5 191 rfl) rfl) zm_im_6 zm_se_6, List.forall_mem_cons.mpr ⟨zm_l0 (zm_t (zm_c5 195 rfl) rfl) zm_im_8 zm_se_8, List.forall_mem_cons.mpr ⟨zm_l0 (zm_t (zm_c5 200 rfl) rfl) zm_im_2 zm_se_2, List.forall_mem_cons.mpr ⟨zm_l1 (zm_t (zm_c5 201 rfl) rfl) zm_st_43, List.forall_mem_cons.mpr ⟨zm_l0 (zm_t (zm_c5 202 rfl) rfl) zm_im_7 zm_se_7, List.forall_mem_nil _⟩⟩⟩⟩⟩⟩⟩⟩⟩
def zm_lk_2 : List zm_LK := [(3, 3, 0, Lib.objectInit), (46, 0, 11, yX2_survey), (67, 0, 30, yX3_driftIn), (50, 0, 12, yX2_lay), (74, 0, 13, yX2_driftBy), (54, 0, 14, yX2_fitsFlights), (87, 0, 31, yX3_withinWalls), (58, 0, 15, yX2_note), (93, 0, 10, yX2_seekAirs), (99, 0, 18, yX2_flyThrough), (103, 4, 0, Lib.Math.max.name)]
set_option maxRecDepth 20000 in
theorem zm_lo_2 : ∀ e ∈ zm_lk_2, zm_okL RX2 e := List.forall_mem_cons.mpr ⟨zm_l3 (zm_t (zm_c1 232 rfl) rfl) (by decide), List.forall_mem_cons.mpr ⟨zm_l0 (zm_t (zm_c5 53 rfl) rfl) zm_im_11 zm_se_11, List.forall_mem_cons.mpr ⟨zm_l0 (zm_t (zm_c5 57 rfl) rfl) zm_im_30 zm_se_30, List.forall_mem_cons.mpr ⟨zm_l0 (zm_t (zm_c5 58 rfl) rfl) zm_im_12 zm_se_12, List.forall_mem_cons.mpr ⟨zm_l0 (zm_t (zm_c5 62 rfl) rfl) zm_im_13 zm_se_13, List.forall_mem_cons.mpr ⟨zm_l0 (zm_t (zm_c5 66 rfl) rfl) zm_im_14 zm_se_14, List.forall_mem_cons.mpr ⟨zm_l0 (zm_t (zm_c5 70 rfl) rfl) zm_im_31 zm_se_31, List.forall_mem_cons.mpr ⟨zm_l0 (zm_t (zm_c5 71 rfl) rfl) zm_im_15 zm_se_15, List.forall_mem_cons.mpr ⟨zm_l0 (zm_t (zm_c5 107 rfl) rfl) zm_im_10 zm_se_10, List.forall_mem_cons.mpr ⟨zm_l0 (zm_t (zm_c5 108 rfl) rfl) zm_im_18 zm_se_18, List.forall_mem_cons.mpr ⟨zm_l3 (zm_t (zm_c5 112 rfl) rfl) (by decide), List.forall_mem_nil _⟩⟩⟩⟩⟩⟩⟩⟩⟩⟩⟩
def zm_lk_3 : List zm_LK := [(5, 3, 0, Lib.objectInit), (121, 0, 40, yX3_ballotOf), (112, 0, 34, yX3_dartColumn), (84, 0, 32, yX3_columnBy), (77, 0, 30, yX3_driftIn), (81, 0, 31, yX3_withinWalls), (68, 5, 0, Lib.Math.min.name), (74, 4, 0, Lib.Math.max.name), (115, 0, 35, yX3_dartRow), (88, 1, 33, yX3_rowBy), (118, 0, 39, yX3_ballotAt), (105, 0, 38, yX3_countsAt), (101, 0, 27, yX3_isLamp), (109, 0, 36, yX3_nearestTo), (91, 1, 37, yX3_nearestBy), (98, 6, 0, Lib.Math.abs.name), (61, 0, 24, yX3_hasColumn), (65, 0, 25, yX3_hasRow), (124, 1, 43, yX3_firstOfMost), (131, 0, 45, yX3_chanceBy), (128, 0, 44, yX3_partsOf)]
set_option maxRecDepth 20000 in
theorem zm_lo_3 : ∀ e ∈ zm_lk_3, zm_okL RX3 e := List.forall_mem_cons.mpr ⟨zm_l3 (zm_t (zm_c2 90 rfl) rfl) (by decide), List.forall_mem_cons.mpr ⟨zm_l0 (zm_t (zm_c3 228 rfl) rfl) zm_im_40 zm_se_40, List.forall_mem_cons.mpr ⟨zm_l0 (zm_t (zm_c3 232 rfl) rfl) zm_im_34 zm_se_34, List.forall_mem_cons.mpr ⟨zm_l0 (zm_t (zm_c3 236 rfl) rfl) zm_im_32 zm_se_32, List.forall_mem_cons.mpr ⟨zm_l0 (zm_t (zm_c4 0 rfl) rfl) zm_im_30 zm_se_30, List.forall_mem_cons.mpr ⟨zm_l0 (zm_t (zm_c4 4 rfl) rfl) zm_im_31 zm_se_31, List.forall_mem_cons.mpr ⟨zm_l3 (zm_t (zm_c4 8 rfl) rfl) (by decide), List.forall_mem_cons.mpr ⟨zm_l3 (zm_t (zm_c4 9 rfl) rfl) (by decide), List.forall_mem_cons.mpr ⟨zm_l0 (zm_t (zm_c4 10 rfl) rfl) zm_im_35 zm_se_35, List.forall_mem_cons.mpr ⟨zm_l1 (zm_t (zm_c4 14 rfl) rfl) zm_st_33, List.forall_mem_cons.mpr ⟨zm_l0 (zm_t (zm_c4 17 rfl) rfl) zm_im_39 zm_se_39, List.forall_mem_cons.mpr ⟨zm_l0 (zm_t (zm_c4 21 rfl) rfl) zm_im_38 zm_se_38, List.forall_mem_cons.mpr ⟨zm_l0 (zm_t (zm_c4 25 rfl) rfl) zm_im_27 zm_se_27, List.forall_mem_cons.mpr ⟨zm_l0 (zm_t (zm_c4 26 rfl) rfl) zm_im_36 zm_se_36, List.forall_mem_cons.mpr ⟨zm_l1 (zm_t (zm_c4 30 rfl) rfl) zm_st_37, List.forall_mem_cons.mpr ⟨zm_l3 (zm_t (zm_c4 34 rfl) rfl) (by decide), List.forall_mem_cons.mpr ⟨zm_l0 (zm_t (zm_c4 61 rfl) rfl) zm_im_24 zm_se_24, List.forall_mem_cons.mpr ⟨zm_l0 (zm_t (zm_c4 65 rfl) rfl) zm_im_25 zm_se_25, List.forall_mem_cons.mpr ⟨zm_l1 (zm_t (zm_c4 95 rfl) rfl) zm_st_43, List.forall_mem_cons.mpr ⟨zm_l0 (zm_t (zm_c4 133 rfl) rfl) zm_im_45 zm_se_45, List.forall_mem_cons.mpr ⟨zm_l0 (zm_t (zm_c4 137 rfl) rfl) zm_im_44 zm_se_44, List.forall_mem_nil _⟩⟩⟩⟩⟩⟩⟩⟩⟩⟩⟩⟩⟩⟩⟩⟩⟩⟩⟩⟩⟩
def zm_lk_4 : List zm_LK := [(3, 3, 0, Lib.objectInit), (11, 2, 0, yX0_init), (41, 1, 50, yX4_commonDivisor), (45, 0, 1, yX0_castAll), (49, 0, 52, yX4_throwFrom), (61, 1, 43, yX3_firstOfMost), (65, 0, 44, yX3_partsOf), (69, 0, 2, yX0_castBy), (72, 0, 46, yX3_chanceNow), (81, 0, 45, yX3_chanceBy)]
set_option maxRecDepth 20000 in
theorem zm_lo_4 : ∀ e ∈ zm_lk_4, zm_okL RX4 e := List.forall_mem_cons.mpr ⟨zm_l3 (zm_t (zm_c1 140 rfl) rfl) (by decide), List.forall_mem_cons.mpr ⟨zm_l2 (zm_t (zm_c1 143 rfl) rfl) zm_im_0 rfl, List.forall_mem_cons.mpr ⟨zm_l1 (zm_t (zm_c4 145 rfl) rfl) zm_st_50, List.forall_mem_cons.mpr ⟨zm_l0 (zm_t (zm_c4 156 rfl) rfl) zm_im_1 zm_se_1, List.forall_mem_cons.mpr ⟨zm_l0 (zm_t (zm_c4 164 rfl) rfl) zm_im_52 zm_se_52, List.forall_mem_cons.mpr ⟨zm_l1 (zm_t (zm_c4 168 rfl) rfl) zm_st_43, List.forall_mem_cons.mpr ⟨zm_l0 (zm_t (zm_c4 169 rfl) rfl) zm_im_44 zm_se_44, List.forall_mem_cons.mpr ⟨zm_l0 (zm_t (zm_c4 170 rfl) rfl) zm_im_2 zm_se_2, List.forall_mem_cons.mpr ⟨zm_l0 (zm_t (zm_c4 186 rfl) rfl) zm_im_46 zm_se_46, List.forall_mem_cons.mpr ⟨zm_l0 (zm_t (zm_c4 207 rfl) rfl) zm_im_45 zm_se_45, List.forall_mem_nil _⟩⟩⟩⟩⟩⟩⟩⟩⟩⟩
def zm_lk_5 : List zm_LK := [(1, 3, 0, Lib.objectInit), (28, 7, 0, arraycopyName), (34, 5, 0, Lib.Math.min.name)]
set_option maxRecDepth 20000 in
theorem zm_lo_5 : ∀ e ∈ zm_lk_5, zm_okL RX5 e := List.forall_mem_cons.mpr ⟨zm_l3 (zm_t (zm_c1 115 rfl) rfl) (by decide), List.forall_mem_cons.mpr ⟨zm_l3 (zm_t (zm_c5 226 rfl) rfl) (by decide), List.forall_mem_cons.mpr ⟨zm_l3 (zm_t (zm_c5 227 rfl) rfl) (by decide), List.forall_mem_nil _⟩⟩⟩
def zm_lk_6 : List zm_LK := [(3, 3, 0, Lib.objectInit), (64, 0, 34, yX3_dartColumn), (68, 0, 35, yX3_dartRow), (75, 0, 66, yX6_addDart), (89, 0, 69, yX6_dartsAt), (93, 0, 65, yX6_gather), (54, 7, 0, arraycopyName), (71, 0, 38, yX3_countsAt), (97, 1, 71, yX6_mayStand), (105, 0, 27, yX3_isLamp), (109, 0, 28, yX3_isSpeaker), (101, 0, 72, yX6_tryPlace), (112, 0, 67, yX6_ballotsFor), (79, 1, 37, yX3_nearestBy), (115, 0, 74, yX6_playAll), (118, 0, 75, yX6_isRest)]
set_option maxRecDepth 20000 in
theorem zm_lo_6 : ∀ e ∈ zm_lk_6, zm_okL RX6 e := List.forall_mem_cons.mpr ⟨zm_l3 (zm_t (zm_c1 183 rfl) rfl) (by decide), List.forall_mem_cons.mpr ⟨zm_l0 (zm_t (zm_c4 114 rfl) rfl) zm_im_34 zm_se_34, List.forall_mem_cons.mpr ⟨zm_l0 (zm_t (zm_c4 115 rfl) rfl) zm_im_35 zm_se_35, List.forall_mem_cons.mpr ⟨zm_l0 (zm_t (zm_c4 116 rfl) rfl) zm_im_66 zm_se_66, List.forall_mem_cons.mpr ⟨zm_l0 (zm_t (zm_c4 120 rfl) rfl) zm_im_69 zm_se_69, List.forall_mem_cons.mpr ⟨zm_l0 (zm_t (zm_c4 228 rfl) rfl) zm_im_65 zm_se_65, List.forall_mem_cons.mpr ⟨zm_l3 (zm_t (zm_c4 232 rfl) rfl) (by decide), List.forall_mem_cons.mpr ⟨zm_l0 (zm_t (zm_c4 235 rfl) rfl) zm_im_38 zm_se_38, List.forall_mem_cons.mpr ⟨zm_l1 (zm_t (zm_c4 236 rfl) rfl) zm_st_71, List.forall_mem_cons.mpr ⟨zm_l0 (zm_t (zm_c4 239 rfl) rfl) zm_im_27 zm_se_27, List.forall_mem_cons.mpr ⟨zm_l0 (zm_t (zm_c5 0 rfl) rfl) zm_im_28 zm_se_28, List.forall_mem_cons.mpr ⟨zm_l0 (zm_t (zm_c5 1 rfl) rfl) zm_im_72 zm_se_72, List.forall_mem_cons.mpr ⟨zm_l0 (zm_t (zm_c5 5 rfl) rfl) zm_im_67 zm_se_67, List.forall_mem_cons.mpr ⟨zm_l1 (zm_t (zm_c5 9 rfl) rfl) zm_st_37, List.forall_mem_cons.mpr ⟨zm_l0 (zm_t (zm_c5 33 rfl) rfl) zm_im_74 zm_se_74, List.forall_mem_cons.mpr ⟨zm_l0 (zm_t (zm_c5 37 rfl) rfl) zm_im_75 zm_se_75, List.forall_mem_nil _⟩⟩⟩⟩⟩⟩⟩⟩⟩⟩⟩⟩⟩⟩⟩⟩
def zm_lk_7 : List zm_LK := [(3, 3, 0, Lib.objectInit), (11, 2, 105, yX9_init), (48, 0, 20, yX3_clear), (53, 0, 108, yX9_rewind), (57, 0, 79, yX7_takeLine), (78, 0, 80, yX7_lineSort), (112, 0, 112, yX9_isWord), (82, 0, 81, yX7_mayBegin), (74, 0, 78, yX7_fail), (131, 0, 82, yX7_hasRoomFor), (86, 0, 109, yX9_advance), (89, 0, 83, yX7_takeHall), (145, 0, 92, yX7_takeWord), (148, 0, 93, yX7_takeWhole), (92, 0, 84, yX7_takeAir), (159, 0, 86, yX7_takeNewAir), (95, 0, 85, yX7_takeFog), (98, 0, 87, yX7_takeSpeaker), (170, 0, 95, yX7_takeName), (174, 0, 94, yX7_takePlace), (212, 0, 28, yX3_isSpeaker), (215, 0, 27, yX3_isLamp), (101, 0, 88, yX7_takeMember), (177, 0, 96, yX7_takeFold), (104, 0, 89, yX7_takeLamp), (107, 0, 90, yX7_takeFlight), (64, 0, 91, yX7_takePart)]
set_option maxRecDepth 20000 in
theorem zm_lo_7 : ∀ e ∈ zm_lk_7, zm_okL RX7 e := List.forall_mem_cons.mpr ⟨zm_l3 (zm_t (zm_c1 36 rfl) rfl) (by decide), List.forall_mem_cons.mpr ⟨zm_l2 (zm_t (zm_c1 39 rfl) rfl) zm_im_105 rfl, List.forall_mem_cons.mpr ⟨zm_l0 (zm_t (zm_c3 15 rfl) rfl) zm_im_20 zm_se_20, List.forall_mem_cons.mpr ⟨zm_l0 (zm_t (zm_c3 19 rfl) rfl) zm_im_108 zm_se_108, List.forall_mem_cons.mpr ⟨zm_l0 (zm_t (zm_c3 41 rfl) rfl) zm_im_79 zm_se_79, List.forall_mem_cons.mpr ⟨zm_l0 (zm_t (zm_c3 45 rfl) rfl) zm_im_80 zm_se_80, List.forall_mem_cons.mpr ⟨zm_l0 (zm_t (zm_c3 50 rfl) rfl) zm_im_112 zm_se_112, List.forall_mem_cons.mpr ⟨zm_l0 (zm_t (zm_c3 108 rfl) rfl) zm_im_81 zm_se_81, List.forall_mem_cons.mpr ⟨zm_l0 (zm_t (zm_c3 112 rfl) rfl) zm_im_78 zm_se_78, List.forall_mem_cons.mpr ⟨zm_l0 (zm_t (zm_c3 116 rfl) rfl) zm_im_82 zm_se_82, List.forall_mem_cons.mpr ⟨zm_l0 (zm_t (zm_c3 120 rfl) rfl) zm_im_109 zm_se_109, List.forall_mem_cons.mpr ⟨zm_l0 (zm_t (zm_c3 121 rfl) rfl) zm_im_83 zm_se_83, List.forall_mem_cons.mpr ⟨zm_l0 (zm_t (zm_c3 126 rfl) rfl) zm_im_92 zm_se_92, List.forall_mem_cons.mpr ⟨zm_l0 (zm_t (zm_c3 130 rfl) rfl) zm_im_93 zm_se_93, List.forall_mem_cons.mpr ⟨zm_l0 (zm_t (zm_c3 136 rfl) rfl) zm_im_84 zm_se_84, List.forall_mem_cons.mpr ⟨zm_l0 (zm_t (zm_c3 140 rfl) rfl) zm_im_86 zm_se_86, List.forall_mem_cons.mpr ⟨zm_l0 (zm_t (zm_c3 146 rfl) rfl) zm_im_85 zm_se_85, List.forall_mem_cons.mpr ⟨zm_l0 (zm_t (zm_c3 150 rfl) rfl) zm_im_87 zm_se_87, List.forall_mem_cons.mpr ⟨zm_l0 (zm_t (zm_c3 154 rfl) rfl) zm_im_95 zm_se_95, List.forall_mem_cons.mpr ⟨zm_l0 (zm_t (zm_c3 159 rfl) rfl) zm_im_94 zm_se_94, List.forall_mem_cons.mpr ⟨zm_l0 (zm_t (zm_c3 163 rfl) rfl) zm_im_28 zm_se_28, List.forall_mem_cons.mpr ⟨zm_l0 (zm_t (zm_c3 167 rfl) rfl) zm_im_27 zm_se_27, List.forall_mem_cons.mpr ⟨zm_l0 (zm_t (zm_c3 171 rfl) rfl) zm_im_88 zm_se_88, List.forall_mem_cons.mpr ⟨zm_l0 (zm_t (zm_c3 175 rfl) rfl) zm_im_96 zm_se_96, List.forall_mem_cons.mpr ⟨zm_l0 (zm_t (zm_c3 187 rfl) rfl) zm_im_89 zm_se_89, List.forall_mem_cons.mpr ⟨zm_l0 (zm_t (zm_c3 191 rfl) rfl) zm_im_90 zm_se_90, List.forall_mem_cons.mpr ⟨zm_l0 (zm_t (zm_c3 196 rfl) rfl) zm_im_91 zm_se_91, List.forall_mem_nil _⟩⟩⟩⟩⟩⟩⟩⟩⟩⟩⟩⟩⟩⟩⟩⟩⟩⟩⟩⟩⟩⟩⟩⟩⟩⟩⟩
def zm_lk_8 : List zm_LK := [(3, 3, 0, Lib.objectInit), (24, 0, 100, yX8_castAll), (38, 0, 40, yX3_ballotOf), (28, 0, 101, yX8_turns), (42, 0, 102, yX8_countSet), (49, 1, 43, yX3_firstOfMost), (53, 0, 34, yX3_dartColumn), (56, 0, 35, yX3_dartRow), (59, 0, 104, yX8_stepsFrom), (66, 6, 0, Lib.Math.abs.name), (71, 5, 0, Lib.Math.min.name)]
set_option maxRecDepth 20000 in
theorem zm_lo_8 : ∀ e ∈ zm_lk_8, zm_okL RX8 e := List.forall_mem_cons.mpr ⟨zm_l3 (zm_t (zm_c2 37 rfl) rfl) (by decide), List.forall_mem_cons.mpr ⟨zm_l0 (zm_t (zm_c5 130 rfl) rfl) zm_im_100 zm_se_100, List.forall_mem_cons.mpr ⟨zm_l0 (zm_t (zm_c5 134 rfl) rfl) zm_im_40 zm_se_40, List.forall_mem_cons.mpr ⟨zm_l0 (zm_t (zm_c5 135 rfl) rfl) zm_im_101 zm_se_101, List.forall_mem_cons.mpr ⟨zm_l0 (zm_t (zm_c5 139 rfl) rfl) zm_im_102 zm_se_102, List.forall_mem_cons.mpr ⟨zm_l1 (zm_t (zm_c5 143 rfl) rfl) zm_st_43, List.forall_mem_cons.mpr ⟨zm_l0 (zm_t (zm_c5 160 rfl) rfl) zm_im_34 zm_se_34, List.forall_mem_cons.mpr ⟨zm_l0 (zm_t (zm_c5 161 rfl) rfl) zm_im_35 zm_se_35, List.forall_mem_cons.mpr ⟨zm_l0 (zm_t (zm_c5 162 rfl) rfl) zm_im_104 zm_se_104, List.forall_mem_cons.mpr ⟨zm_l3 (zm_t (zm_c5 167 rfl) rfl) (by decide), List.forall_mem_cons.mpr ⟨zm_l3 (zm_t (zm_c5 168 rfl) rfl) (by decide), List.forall_mem_nil _⟩⟩⟩⟩⟩⟩⟩⟩⟩⟩⟩
def zm_lk_9 : List zm_LK := [(1, 3, 0, Lib.objectInit), (36, 5, 0, Lib.Math.min.name), (42, 4, 0, Lib.Math.max.name), (45, 0, 109, yX9_advance), (48, 0, 110, yX9_takeWord), (51, 0, 111, yX9_takeWhole), (54, 8, 0, ⟨"java/lang/String", "length", "()I"⟩), (59, 9, 0, ⟨"java/lang/String", "charAt", "(I)C"⟩)]
set_option maxRecDepth 20000 in
theorem zm_lo_9 : ∀ e ∈ zm_lk_9, zm_okL RX9 e := List.forall_mem_cons.mpr ⟨zm_l3 (zm_t (zm_c1 42 rfl) rfl) (by decide), List.forall_mem_cons.mpr ⟨zm_l3 (zm_t (zm_c3 23 rfl) rfl) (by decide), List.forall_mem_cons.mpr ⟨zm_l3 (zm_t (zm_c3 26 rfl) rfl) (by decide), List.forall_mem_cons.mpr ⟨zm_l0 (zm_t (zm_c3 29 rfl) rfl) zm_im_109 zm_se_109, List.forall_mem_cons.mpr ⟨zm_l0 (zm_t (zm_c3 33 rfl) rfl) zm_im_110 zm_se_110, List.forall_mem_cons.mpr ⟨zm_l0 (zm_t (zm_c3 37 rfl) rfl) zm_im_111 zm_se_111, List.forall_mem_cons.mpr ⟨zm_l3 (zm_t (zm_c3 54 rfl) rfl) (by decide), List.forall_mem_cons.mpr ⟨zm_l3 (zm_t (zm_c3 64 rfl) rfl) (by decide), List.forall_mem_nil _⟩⟩⟩⟩⟩⟩⟩⟩
def zm_lk_10 : List zm_LK := [(1, 3, 0, Lib.objectInit), (9, 2, 76, yX7_init), (23, 2, 57, yX5_init), (30, 2, 47, yX4_init), (37, 2, 64, yX6_init), (44, 2, 9, yX2_init), (51, 2, 97, yX8_init), (58, 2, 3, yX1_init), (65, 2, 19, yX3_init), (83, 0, 106, yX9_hasRoom), (89, 0, 107, yX9_append), (96, 0, 167, yX10_refuse), (100, 0, 77, yX7_read), (110, 0, 58, yX5_forgetAll), (116, 0, 22, yX3_hasSpeaker), (120, 0, 168, yX10_granted), (128, 0, 41, yX3_ballotsFor), (131, 0, 23, yX3_hasMember), (143, 0, 25, yX3_hasRow), (146, 0, 26, yX3_hasPlace), (150, 0, 27, yX3_isLamp), (153, 0, 34, yX3_dartColumn), (156, 0, 35, yX3_dartRow), (159, 0, 40, yX3_ballotOf), (162, 0, 36, yX3_nearestTo), (166, 0, 21, yX3_stands), (169, 0, 42, yX3_leader), (176, 0, 68, yX6_thickestPlace), (182, 0, 46, yX3_chanceNow), (187, 1, 49, yX4_inLowestTerms), (191, 0, 51, yX4_weighWins), (199, 1, 48, yX4_allParts), (203, 0, 53, yX4_weighCounts), (210, 0, 54, yX4_likeliest), (213, 0, 55, yX4_seekFold), (226, 0, 56, yX4_seekSeat), (230, 0, 70, yX6_seekPlace), (240, 0, 24, yX3_hasColumn), (243, 0, 173, yX10_areTwo), (246, 0, 65, yX6_gather), (252, 0, 67, yX6_ballotsFor), (253, 0, 73, yX6_seekRests), (262, 0, 10, yX2_seekAirs), (268, 0, 171, yX10_grantedUnknown), (274, 0, 16, yX2_onlyDrift), (277, 0, 172, yX10_grantedThrow), (389, 0, 29, yX3_unknownRows), (280, 0, 17, yX2_seekThrow), (301, 0, 32, yX3_columnBy), (308, 0, 98, yX8_powerOf), (312, 0, 99, yX8_mightiest), (315, 0, 103, yX8_rakeSteps), (318, 0, 170, yX10_grantedRun), (336, 0, 169, yX10_grantedNumber), (321, 0, 4, yX1_holdMany), (333, 0, 174, yX10_change), (343, 0, 59, yX5_keep), (340, 0, 28, yX3_isSpeaker), (347, 0, 5, yX1_begin), (350, 0, 6, yX1_holdOne), (360, 0, 60, yX5_takeBack), (363, 0, 61, yX5_hasImageRoom), (366, 0, 62, yX5_takeImage), (373, 0, 63, yX5_goBack), (379, 10, 0, ⟨"java/util/NoSuchElementException", "<init>", "()V"⟩)]
set_option maxRecDepth 20000 in
theorem zm_lo_10 : ∀ e ∈ zm_lk_10, zm_okL RX10 e := List.forall_mem_cons.mpr ⟨zm_l3 (zm_t (zm_c1 28 rfl) rfl) (by decide), List.forall_mem_cons.mpr ⟨zm_l2 (zm_t (zm_c1 33 rfl) rfl) zm_im_76 rfl, List.forall_mem_cons.mpr ⟨zm_l2 (zm_t (zm_c1 112 rfl) rfl) zm_im_57 rfl, List.forall_mem_cons.mpr ⟨zm_l2 (zm_t (zm_c1 137 rfl) rfl) zm_im_47 rfl, List.forall_mem_cons.mpr ⟨zm_l2 (zm_t (zm_c1 180 rfl) rfl) zm_im_64 rfl, List.forall_mem_cons.mpr ⟨zm_l2 (zm_t (zm_c1 229 rfl) rfl) zm_im_9 rfl, List.forall_mem_cons.mpr ⟨zm_l2 (zm_t (zm_c2 34 rfl) rfl) zm_im_97 rfl, List.forall_mem_cons.mpr ⟨zm_l2 (zm_t (zm_c2 53 rfl) rfl) zm_im_3 rfl, List.forall_mem_cons.mpr ⟨zm_l2 (zm_t (zm_c2 87 rfl) rfl) zm_im_19 rfl, List.forall_mem_cons.mpr ⟨zm_l0 (zm_t (zm_c2 235 rfl) rfl) zm_im_106 zm_se_106, List.forall_mem_cons.mpr ⟨zm_l0 (zm_t (zm_c2 239 rfl) rfl) zm_im_107 zm_se_107, List.forall_mem_cons.mpr ⟨zm_l0 (zm_t (zm_c3 7 rfl) rfl) zm_im_167 zm_se_167, List.forall_mem_cons.mpr ⟨zm_l0 (zm_t (zm_c3 11 rfl) rfl) zm_im_77 zm_se_77, List.forall_mem_cons.mpr ⟨zm_l0 (zm_t (zm_c3 200 rfl) rfl) zm_im_58 zm_se_58, List.forall_mem_cons.mpr ⟨zm_l0 (zm_t (zm_c3 216 rfl) rfl) zm_im_22 zm_se_22, List.forall_mem_cons.mpr ⟨zm_l0 (zm_t (zm_c3 220 rfl) rfl) zm_im_168 zm_se_168, List.forall_mem_cons.mpr ⟨zm_l0 (zm_t (zm_c3 224 rfl) rfl) zm_im_41 zm_se_41, List.forall_mem_cons.mpr ⟨zm_l0 (zm_t (zm_c4 41 rfl) rfl) zm_im_23 zm_se_23, List.forall_mem_cons.mpr ⟨zm_l0 (zm_t (zm_c4 49 rfl) rfl) zm_im_25 zm_se_25, List.forall_mem_cons.mpr ⟨zm_l0 (zm_t (zm_c4 57 rfl) rfl) zm_im_26 zm_se_26, List.forall_mem_cons.mpr ⟨zm_l0 (zm_t (zm_c4 66 rfl) rfl) zm_im_27 zm_se_27, List.forall_mem_cons.mpr ⟨zm_l0 (zm_t (zm_c4 71 rfl) rfl) zm_im_34 zm_se_34, List.forall_mem_cons.mpr ⟨zm_l0 (zm_t (zm_c4 72 rfl) rfl) zm_im_35 zm_se_35, List.forall_mem_cons.mpr ⟨zm_l0 (zm_t (zm_c4 77 rfl) rfl) zm_im_40 zm_se_40, List.forall_mem_cons.mpr ⟨zm_l0 (zm_t (zm_c4 82 rfl) rfl) zm_im_36 zm_se_36, List.forall_mem_cons.mpr ⟨zm_l0 (zm_t (zm_c4 87 rfl) rfl) zm_im_21 zm_se_21, List.forall_mem_cons.mpr ⟨zm_l0 (zm_t (zm_c4 91 rfl) rfl) zm_im_42 zm_se_42, List.forall_mem_cons.mpr ⟨zm_l0 (zm_t (zm_c4 110 rfl) rfl) zm_im_68 zm_se_68, List.forall_mem_cons.mpr ⟨zm_l0 (zm_t (zm_c4 129 rfl) rfl) zm_im_46 zm_se_46, List.forall_mem_cons.mpr ⟨zm_l1 (zm_t (zm_c4 142 rfl) rfl) zm_st_49, List.forall_mem_cons.mpr ⟨zm_l0 (zm_t (zm_c4 152 rfl) rfl) zm_im_51 zm_se_51, List.forall_mem_cons.mpr ⟨zm_l1 (zm_t (zm_c4 174 rfl) rfl) zm_st_48, List.forall_mem_cons.mpr ⟨zm_l0 (zm_t (zm_c4 182 rfl) rfl) zm_im_53 zm_se_53, List.forall_mem_cons.mpr ⟨zm_l0 (zm_t (zm_c4 195 rfl) rfl) zm_im_54 zm_se_54, List.forall_mem_cons.mpr ⟨zm_l0 (zm_t (zm_c4 203 rfl) rfl) zm_im_55 zm_se_55, List.forall_mem_cons.mpr ⟨zm_l0 (zm_t (zm_c4 216 rfl) rfl) zm_im_56 zm_se_56, List.forall_mem_cons.mpr ⟨zm_l0 (zm_t (zm_c4 224 rfl) rfl) zm_im_70 zm_se_70, List.forall_mem_cons.mpr ⟨zm_l0 (zm_t (zm_c5 18 rfl) rfl) zm_im_24 zm_se_24, List.forall_mem_cons.mpr ⟨zm_l0 (zm_t (zm_c5 19 rfl) rfl) zm_im_173 zm_se_173, List.forall_mem_cons.mpr ⟨zm_l0 (zm_t (zm_c5 23 rfl) rfl) zm_im_65 zm_se_65, List.forall_mem_cons.mpr ⟨zm_l0 (zm_t (zm_c5 24 rfl) rfl) zm_im_67 zm_se_67, List.forall_mem_cons.mpr ⟨zm_l0 (zm_t (zm_c5 29 rfl) rfl) zm_im_73 zm_se_73, List.forall_mem_cons.mpr ⟨zm_l0 (zm_t (zm_c5 49 rfl) rfl) zm_im_10 zm_se_10, List.forall_mem_cons.mpr ⟨zm_l0 (zm_t (zm_c5 79 rfl) rfl) zm_im_171 zm_se_171, List.forall_mem_cons.mpr ⟨zm_l0 (zm_t (zm_c5 87 rfl) rfl) zm_im_16 zm_se_16, List.forall_mem_cons.mpr ⟨zm_l0 (zm_t (zm_c5 95 rfl) rfl) zm_im_172 zm_se_172, List.forall_mem_cons.mpr ⟨zm_l0 (zm_t (zm_c5 99 rfl) rfl) zm_im_29 zm_se_29, List.forall_mem_cons.mpr ⟨zm_l0 (zm_t (zm_c5 103 rfl) rfl) zm_im_17 zm_se_17, List.forall_mem_cons.mpr ⟨zm_l0 (zm_t (zm_c5 121 rfl) rfl) zm_im_32 zm_se_32, List.forall_mem_cons.mpr ⟨zm_l0 (zm_t (zm_c5 126 rfl) rfl) zm_im_98 zm_se_98, List.forall_mem_cons.mpr ⟨zm_l0 (zm_t (zm_c5 148 rfl) rfl) zm_im_99 zm_se_99, List.forall_mem_cons.mpr ⟨zm_l0 (zm_t (zm_c5 156 rfl) rfl) zm_im_103 zm_se_103, List.forall_mem_cons.mpr ⟨zm_l0 (zm_t (zm_c5 173 rfl) rfl) zm_im_170 zm_se_170, List.forall_mem_cons.mpr ⟨zm_l0 (zm_t (zm_c5 178 rfl) rfl) zm_im_169 zm_se_169, List.forall_mem_cons.mpr ⟨zm_l0 (zm_t (zm_c5 182 rfl) rfl) zm_im_4 zm_se_4, List.forall_mem_cons.mpr ⟨zm_l0 (zm_t (zm_c5 218 rfl) rfl) zm_im_174 zm_se_174, List.forall_mem_cons.mpr ⟨zm_l0 (zm_t (zm_c5 222 rfl) rfl) zm_im_59 zm_se_59, List.forall_mem_cons.mpr ⟨zm_l0 (zm_t (zm_c6 4 rfl) rfl) zm_im_28 zm_se_28, List.forall_mem_cons.mpr ⟨zm_l0 (zm_t (zm_c6 9 rfl) rfl) zm_im_5 zm_se_5, List.forall_mem_cons.mpr ⟨zm_l0 (zm_t (zm_c6 10 rfl) rfl) zm_im_6 zm_se_6, List.forall_mem_cons.mpr ⟨zm_l0 (zm_t (zm_c6 19 rfl) rfl) zm_im_60 zm_se_60, List.forall_mem_cons.mpr ⟨zm_l0 (zm_t (zm_c6 27 rfl) rfl) zm_im_61 zm_se_61, List.forall_mem_cons.mpr ⟨zm_l0 (zm_t (zm_c6 31 rfl) rfl) zm_im_62 zm_se_62, List.forall_mem_cons.mpr ⟨zm_l0 (zm_t (zm_c6 39 rfl) rfl) zm_im_63 zm_se_63, List.forall_mem_cons.mpr ⟨zm_l3 (zm_t (zm_c6 98 rfl) rfl) (by decide), List.forall_mem_nil _⟩⟩⟩⟩⟩⟩⟩⟩⟩⟩⟩⟩⟩⟩⟩⟩⟩⟩⟩⟩⟩⟩⟩⟩⟩⟩⟩⟩⟩⟩⟩⟩⟩⟩⟩⟩⟩⟩⟩⟩⟩⟩⟩⟩⟩⟩⟩⟩⟩⟩⟩⟩⟩⟩⟩⟩⟩⟩⟩⟩⟩⟩⟩⟩⟩
def zm_lk_11 : List zm_LK := [(1, 3, 0, Lib.objectInit), (164, 0, 177, yX11_good), (149, 1, 180, yX11_in), (167, 0, 178, yX11_no), (122, 0, 189, yX11_next), (78, 0, 186, yX11_look), (94, 1, 187, yX11_isSmall), (98, 1, 188, yX11_isDigit), (170, 0, 202, yX11_readLine), (118, 0, 191, yX11_isWord), (108, 8, 0, ⟨"java/lang/String", "length", "()I"⟩), (114, 9, 0, ⟨"java/lang/String", "charAt", "(I)C"⟩), (186, 0, 203, yX11_hallLine), (128, 0, 190, yX11_wrong), (213, 0, 198, yX11_after), (157, 0, 193, yX11_must), (125, 0, 192, yX11_takesWord), (161, 0, 197, yX11_number), (153, 0, 196, yX11_numberHere), (189, 0, 201, yX11_begins), (193, 0, 205, yX11_airLine), (221, 0, 204, yX11_newRow), (196, 0, 206, yX11_fogLine), (199, 0, 208, yX11_speakerLine), (231, 0, 195, yX11_newName), (146, 0, 194, yX11_mustName), (236, 0, 207, yX11_newPlace), (228, 0, 199, yX11_column), (202, 0, 209, yX11_memberLine), (205, 0, 210, yX11_lampLine), (208, 0, 211, yX11_flightLine), (173, 1, 183, yX11_copy), (320, 0, 214, yX11_isSpeaker), (323, 0, 238, yX11_throwAll), (311, 0, 230, yX11_laySpots), (314, 0, 237, yX11_allMembers), (317, 0, 236, yX11_throwsOf), (302, 0, 234, yX11_noVotes), (305, 1, 181, yX11_hasBit), (308, 0, 233, yX11_voteOf), (293, 0, 227, yX11_landsIn), (260, 0, 219, yX11_layAirs), (263, 0, 222, yX11_foldOf), (266, 0, 223, yX11_seatOf), (269, 0, 224, yX11_farOf), (272, 0, 221, yX11_columnOf), (257, 0, 218, yX11_walled), (296, 0, 228, yX11_landsAt), (276, 1, 220, yX11_rowOf), (299, 0, 232, yX11_voteAt), (283, 0, 225, yX11_sharpOf), (286, 0, 229, yX11_isLamp), (290, 0, 231, yX11_nearestTo), (280, 1, 182, yX11_apart), (326, 0, 215, yX11_isMember), (329, 0, 226, yX11_errsOf), (332, 0, 217, yX11_isRow), (335, 0, 216, yX11_isColumn), (338, 0, 235, yX11_winnerOf), (348, 0, 252, yX11_likelyNow), (344, 0, 251, yX11_likelyBy), (341, 0, 250, yX11_weightOf), (353, 1, 184, yX11_lowest), (365, 0, 256, yX11_winsOf), (361, 0, 254, yX11_tryErrors), (369, 1, 255, yX11_wholes), (375, 0, 261, yX11_foldFor), (384, 0, 266, yX11_placeFor), (381, 0, 265, yX11_isTaken), (387, 0, 270, yX11_areTwo), (390, 0, 269, yX11_standsAt), (397, 0, 272, yX11_seekRests), (415, 0, 280, yX11_fitting), (409, 0, 276, yX11_codes), (400, 0, 275, yX11_unknownRows), (412, 0, 279, yX11_doesFit), (403, 0, 277, yX11_layCode), (406, 0, 278, yX11_wrongFlight), (418, 0, 282, yX11_rowWhy), (421, 0, 283, yX11_driftsOf), (430, 0, 288, yX11_throwWhy), (433, 0, 287, yX11_throwFor), (427, 0, 286, yX11_leavesBy), (436, 0, 292, yX11_powerOf), (442, 0, 295, yX11_tryRake), (450, 0, 298, yX11_sessionWhy), (454, 0, 297, yX11_sessionOf), (463, 0, 303, yX11_becomes), (457, 0, 179, yX11_isNot), (460, 0, 302, yX11_note)]
set_option maxRecDepth 20000 in
theorem zm_lo_11 : ∀ e ∈ zm_lk_11, zm_okL RX11 e := List.forall_mem_cons.mpr ⟨zm_l3 (zm_t (zm_c6 125 rfl) rfl) (by decide), List.forall_mem_cons.mpr ⟨zm_l0 (zm_t (zm_c7 13 rfl) rfl) zm_im_177 zm_se_177, List.forall_mem_cons.mpr ⟨zm_l1 (zm_t (zm_c7 17 rfl) rfl) zm_st_180, List.forall_mem_cons.mpr ⟨zm_l0 (zm_t (zm_c7 20 rfl) rfl) zm_im_178 zm_se_178, List.forall_mem_cons.mpr ⟨zm_l0 (zm_t (zm_c7 24 rfl) rfl) zm_im_189 zm_se_189, List.forall_mem_cons.mpr ⟨zm_l0 (zm_t (zm_c7 28 rfl) rfl) zm_im_186 zm_se_186, List.forall_mem_cons.mpr ⟨zm_l1 (zm_t (zm_c7 32 rfl) rfl) zm_st_187, List.forall_mem_cons.mpr ⟨zm_l1 (zm_t (zm_c7 35 rfl) rfl) zm_st_188, List.forall_mem_cons.mpr ⟨zm_l0 (zm_t (zm_c7 38 rfl) rfl) zm_im_202 zm_se_202, List.forall_mem_cons.mpr ⟨zm_l0 (zm_t (zm_c7 43 rfl) rfl) zm_im_191 zm_se_191, List.forall_mem_cons.mpr ⟨zm_l3 (zm_t (zm_c7 47 rfl) rfl) (by decide), List.forall_mem_cons.mpr ⟨zm_l3 (zm_t (zm_c7 48 rfl) rfl) (by decide), List.forall_mem_cons.mpr ⟨zm_l0 (zm_t (zm_c7 49 rfl) rfl) zm_im_203 zm_se_203, List.forall_mem_cons.mpr ⟨zm_l0 (zm_t (zm_c7 53 rfl) rfl) zm_im_190 zm_se_190, List.forall_mem_cons.mpr ⟨zm_l0 (zm_t (zm_c7 58 rfl) rfl) zm_im_198 zm_se_198, List.forall_mem_cons.mpr ⟨zm_l0 (zm_t (zm_c7 62 rfl) rfl) zm_im_193 zm_se_193, List.forall_mem_cons.mpr ⟨zm_l0 (zm_t (zm_c7 66 rfl) rfl) zm_im_192 zm_se_192, List.forall_mem_cons.mpr ⟨zm_l0 (zm_t (zm_c7 70 rfl) rfl) zm_im_197 zm_se_197, List.forall_mem_cons.mpr ⟨zm_l0 (zm_t (zm_c7 74 rfl) rfl) zm_im_196 zm_se_196, List.forall_mem_cons.mpr ⟨zm_l0 (zm_t (zm_c7 81 rfl) rfl) zm_im_201 zm_se_201, List.forall_mem_cons.mpr ⟨zm_l0 (zm_t (zm_c7 85 rfl) rfl) zm_im_205 zm_se_205, List.forall_mem_cons.mpr ⟨zm_l0 (zm_t (zm_c7 89 rfl) rfl) zm_im_204 zm_se_204, List.forall_mem_cons.mpr ⟨zm_l0 (zm_t (zm_c7 96 rfl) rfl) zm_im_206 zm_se_206, List.forall_mem_cons.mpr ⟨zm_l0 (zm_t (zm_c7 101 rfl) rfl) zm_im_208 zm_se_208, List.forall_mem_cons.mpr ⟨zm_l0 (zm_t (zm_c7 105 rfl) rfl) zm_im_195 zm_se_195, List.forall_mem_cons.mpr ⟨zm_l0 (zm_t (zm_c7 109 rfl) rfl) zm_im_194 zm_se_194, List.forall_mem_cons.mpr ⟨zm_l0 (zm_t (zm_c7 117 rfl) rfl) zm_im_207 zm_se_207, List.forall_mem_cons.mpr ⟨zm_l0 (zm_t (zm_c7 121 rfl) rfl) zm_im_199 zm_se_199, List.forall_mem_cons.mpr ⟨zm_l0 (zm_t (zm_c7 125 rfl) rfl) zm_im_209 zm_se_209, List.forall_mem_cons.mpr ⟨zm_l0 (zm_t (zm_c7 137 rfl) rfl) zm_im_210 zm_se_210, List.forall_mem_cons.mpr ⟨zm_l0 (zm_t (zm_c7 141 rfl) rfl) zm_im_211 zm_se_211, List.forall_mem_cons.mpr ⟨zm_l1 (zm_t (zm_c7 146 rfl) rfl) zm_st_183, List.forall_mem_cons.mpr ⟨zm_l0 (zm_t (zm_c7 161 rfl) rfl) zm_im_214 zm_se_214, List.forall_mem_cons.mpr ⟨zm_l0 (zm_t (zm_c7 165 rfl) rfl) zm_im_238 zm_se_238, List.forall_mem_cons.mpr ⟨zm_l0 (zm_t (zm_c7 169 rfl) rfl) zm_im_230 zm_se_230, List.forall_mem_cons.mpr ⟨zm_l0 (zm_t (zm_c7 173 rfl) rfl) zm_im_237 zm_se_237, List.forall_mem_cons.mpr ⟨zm_l0 (zm_t (zm_c7 177 rfl) rfl) zm_im_236 zm_se_236, List.forall_mem_cons.mpr ⟨zm_l0 (zm_t (zm_c7 181 rfl) rfl) zm_im_234 zm_se_234, List.forall_mem_cons.mpr ⟨zm_l1 (zm_t (zm_c7 185 rfl) rfl) zm_st_181, List.forall_mem_cons.mpr ⟨zm_l0 (zm_t (zm_c7 188 rfl) rfl) zm_im_233 zm_se_233, List.forall_mem_cons.mpr ⟨zm_l0 (zm_t (zm_c7 192 rfl) rfl) zm_im_227 zm_se_227, List.forall_mem_cons.mpr ⟨zm_l0 (zm_t (zm_c7 196 rfl) rfl) zm_im_219 zm_se_219, List.forall_mem_cons.mpr ⟨zm_l0 (zm_t (zm_c7 200 rfl) rfl) zm_im_222 zm_se_222, List.forall_mem_cons.mpr ⟨zm_l0 (zm_t (zm_c7 204 rfl) rfl) zm_im_223 zm_se_223, List.forall_mem_cons.mpr ⟨zm_l0 (zm_t (zm_c7 208 rfl) rfl) zm_im_224 zm_se_224, List.forall_mem_cons.mpr ⟨zm_l0 (zm_t (zm_c7 212 rfl) rfl) zm_im_221 zm_se_221, List.forall_mem_cons.mpr ⟨zm_l0 (zm_t (zm_c7 216 rfl) rfl) zm_im_218 zm_se_218, List.forall_mem_cons.mpr ⟨zm_l0 (zm_t (zm_c7 220 rfl) rfl) zm_im_228 zm_se_228, List.forall_mem_cons.mpr ⟨zm_l1 (zm_t (zm_c7 224 rfl) rfl) zm_st_220, List.forall_mem_cons.mpr ⟨zm_l0 (zm_t (zm_c7 227 rfl) rfl) zm_im_232 zm_se_232, List.forall_mem_cons.mpr ⟨zm_l0 (zm_t (zm_c7 231 rfl) rfl) zm_im_225 zm_se_225, List.forall_mem_cons.mpr ⟨zm_l0 (zm_t (zm_c7 235 rfl) rfl) zm_im_229 zm_se_229, List.forall_mem_cons.mpr ⟨zm_l0 (zm_t (zm_c7 239 rfl) rfl) zm_im_231 zm_se_231, List.forall_mem_cons.mpr ⟨zm_l1 (zm_t (zm_c8 4 rfl) rfl) zm_st_182, List.forall_mem_cons.mpr ⟨zm_l0 (zm_t (zm_c8 11 rfl) rfl) zm_im_215 zm_se_215, List.forall_mem_cons.mpr ⟨zm_l0 (zm_t (zm_c8 15 rfl) rfl) zm_im_226 zm_se_226, List.forall_mem_cons.mpr ⟨zm_l0 (zm_t (zm_c8 23 rfl) rfl) zm_im_217 zm_se_217, List.forall_mem_cons.mpr ⟨zm_l0 (zm_t (zm_c8 31 rfl) rfl) zm_im_216 zm_se_216, List.forall_mem_cons.mpr ⟨zm_l0 (zm_t (zm_c8 51 rfl) rfl) zm_im_235 zm_se_235, List.forall_mem_cons.mpr ⟨zm_l0 (zm_t (zm_c8 71 rfl) rfl) zm_im_252 zm_se_252, List.forall_mem_cons.mpr ⟨zm_l0 (zm_t (zm_c8 75 rfl) rfl) zm_im_251 zm_se_251, List.forall_mem_cons.mpr ⟨zm_l0 (zm_t (zm_c8 79 rfl) rfl) zm_im_250 zm_se_250, List.forall_mem_cons.mpr ⟨zm_l1 (zm_t (zm_c8 84 rfl) rfl) zm_st_184, List.forall_mem_cons.mpr ⟨zm_l0 (zm_t (zm_c8 91 rfl) rfl) zm_im_256 zm_se_256, List.forall_mem_cons.mpr ⟨zm_l0 (zm_t (zm_c8 95 rfl) rfl) zm_im_254 zm_se_254, List.forall_mem_cons.mpr ⟨zm_l1 (zm_t (zm_c8 99 rfl) rfl) zm_st_255, List.forall_mem_cons.mpr ⟨zm_l0 (zm_t (zm_c8 118 rfl) rfl) zm_im_261 zm_se_261, List.forall_mem_cons.mpr ⟨zm_l0 (zm_t (zm_c8 134 rfl) rfl) zm_im_266 zm_se_266, List.forall_mem_cons.mpr ⟨zm_l0 (zm_t (zm_c8 138 rfl) rfl) zm_im_265 zm_se_265, List.forall_mem_cons.mpr ⟨zm_l0 (zm_t (zm_c8 150 rfl) rfl) zm_im_270 zm_se_270, List.forall_mem_cons.mpr ⟨zm_l0 (zm_t (zm_c8 154 rfl) rfl) zm_im_269 zm_se_269, List.forall_mem_cons.mpr ⟨zm_l0 (zm_t (zm_c8 162 rfl) rfl) zm_im_272 zm_se_272, List.forall_mem_cons.mpr ⟨zm_l0 (zm_t (zm_c8 174 rfl) rfl) zm_im_280 zm_se_280, List.forall_mem_cons.mpr ⟨zm_l0 (zm_t (zm_c8 178 rfl) rfl) zm_im_276 zm_se_276, List.forall_mem_cons.mpr ⟨zm_l0 (zm_t (zm_c8 182 rfl) rfl) zm_im_275 zm_se_275, List.forall_mem_cons.mpr ⟨zm_l0 (zm_t (zm_c8 186 rfl) rfl) zm_im_279 zm_se_279, List.forall_mem_cons.mpr ⟨zm_l0 (zm_t (zm_c8 190 rfl) rfl) zm_im_277 zm_se_277, List.forall_mem_cons.mpr ⟨zm_l0 (zm_t (zm_c8 194 rfl) rfl) zm_im_278 zm_se_278, List.forall_mem_cons.mpr ⟨zm_l0 (zm_t (zm_c8 202 rfl) rfl) zm_im_282 zm_se_282, List.forall_mem_cons.mpr ⟨zm_l0 (zm_t (zm_c8 206 rfl) rfl) zm_im_283 zm_se_283, List.forall_mem_cons.mpr ⟨zm_l0 (zm_t (zm_c8 218 rfl) rfl) zm_im_288 zm_se_288, List.forall_mem_cons.mpr ⟨zm_l0 (zm_t (zm_c8 222 rfl) rfl) zm_im_287 zm_se_287, List.forall_mem_cons.mpr ⟨zm_l0 (zm_t (zm_c8 226 rfl) rfl) zm_im_286 zm_se_286, List.forall_mem_cons.mpr ⟨zm_l0 (zm_t (zm_c9 2 rfl) rfl) zm_im_292 zm_se_292, List.forall_mem_cons.mpr ⟨zm_l0 (zm_t (zm_c9 14 rfl) rfl) zm_im_295 zm_se_295, List.forall_mem_cons.mpr ⟨zm_l0 (zm_t (zm_c9 22 rfl) rfl) zm_im_298 zm_se_298, List.forall_mem_cons.mpr ⟨zm_l0 (zm_t (zm_c9 27 rfl) rfl) zm_im_297 zm_se_297, List.forall_mem_cons.mpr ⟨zm_l0 (zm_t (zm_c9 44 rfl) rfl) zm_im_303 zm_se_303, List.forall_mem_cons.mpr ⟨zm_l0 (zm_t (zm_c9 48 rfl) rfl) zm_im_179 zm_se_179, List.forall_mem_cons.mpr ⟨zm_l0 (zm_t (zm_c9 52 rfl) rfl) zm_im_302 zm_se_302, List.forall_mem_nil _⟩⟩⟩⟩⟩⟩⟩⟩⟩⟩⟩⟩⟩⟩⟩⟩⟩⟩⟩⟩⟩⟩⟩⟩⟩⟩⟩⟩⟩⟩⟩⟩⟩⟩⟩⟩⟩⟩⟩⟩⟩⟩⟩⟩⟩⟩⟩⟩⟩⟩⟩⟩⟩⟩⟩⟩⟩⟩⟩⟩⟩⟩⟩⟩⟩⟩⟩⟩⟩⟩⟩⟩⟩⟩⟩⟩⟩⟩⟩⟩⟩⟩⟩⟩⟩⟩⟩⟩⟩⟩
def zm_lk_12 : List zm_LK := [(15, 2, 113, yX10_init), (19, 0, 114, yX10_feed), (24, 0, 115, yX10_hall), (28, 0, 116, yX10_fault), (33, 0, 117, yX10_where), (37, 0, 118, yX10_speaker), (42, 0, 119, yX10_member), (46, 0, 120, yX10_air), (50, 0, 121, yX10_lamp), (54, 0, 122, yX10_lands), (58, 0, 123, yX10_votes), (62, 0, 124, yX10_nearest), (66, 0, 125, yX10_winner), (70, 0, 126, yX10_counted), (74, 0, 127, yX10_hang), (78, 0, 128, yX10_thickest), (82, 0, 129, yX10_likely), (87, 0, 130, yX10_wins), (92, 0, 131, yX10_just), (96, 0, 132, yX10_mean), (100, 0, 133, yX10_favourite), (104, 0, 134, yX10_bestFold), (108, 0, 135, yX10_bestLikely), (112, 0, 136, yX10_bestSeat), (116, 0, 137, yX10_place), (120, 0, 138, yX10_placeVotes), (124, 0, 139, yX10_game), (129, 0, 140, yX10_rests), (133, 0, 141, yX10_rest), (137, 0, 142, yX10_airs), (141, 0, 143, yX10_could), (145, 0, 144, yX10_surely), (149, 0, 145, yX10_toThrow), (153, 0, 146, yX10_throwLeaves), (157, 0, 147, yX10_judge), (161, 0, 148, yX10_power), (165, 0, 149, yX10_mighty), (169, 0, 150, yX10_rake), (173, 0, 151, yX10_sessions), (178, 0, 152, yX10_darts), (182, 0, 153, yX10_lucky), (186, 0, 154, yX10_sit), (191, 0, 155, yX10_fold), (195, 0, 156, yX10_aim), (199, 0, 157, yX10_warm), (203, 0, 158, yX10_stand), (208, 0, 159, yX10_session), (212, 0, 160, yX10_seed), (217, 0, 161, yX10_undo), (222, 0, 162, yX10_image), (226, 0, 163, yX10_back), (239, 0, 165, yX10_size), (243, 0, 166, yX10_trouble), (230, 1, 317, yL_led), (7, 0, 164, yX10_led), (18, 2, 175, yX11_init), (236, 0, 176, yX11_thrown), (23, 0, 185, yX11_feed), (27, 0, 200, yX11_hall), (32, 0, 212, yX11_fault), (36, 0, 213, yX11_where), (41, 0, 239, yX11_speaker), (45, 0, 240, yX11_member), (49, 0, 241, yX11_air), (53, 0, 242, yX11_lamp), (57, 0, 243, yX11_lands), (61, 0, 244, yX11_votes), (65, 0, 245, yX11_nearest), (69, 0, 246, yX11_winner), (73, 0, 247, yX11_counted), (77, 0, 248, yX11_hang), (81, 0, 249, yX11_thickest), (86, 0, 253, yX11_likely), (91, 0, 257, yX11_wins), (95, 0, 258, yX11_just), (99, 0, 259, yX11_mean), (103, 0, 260, yX11_favourite), (107, 0, 262, yX11_bestFold), (111, 0, 263, yX11_bestLikely), (115, 0, 264, yX11_bestSeat), (119, 0, 267, yX11_place), (123, 0, 268, yX11_placeVotes), (128, 0, 271, yX11_game), (132, 0, 273, yX11_rests), (136, 0, 274, yX11_rest), (140, 0, 281, yX11_airs), (144, 0, 284, yX11_could), (148, 0, 285, yX11_surely), (152, 0, 289, yX11_toThrow), (156, 0, 290, yX11_throwLeaves), (160, 0, 291, yX11_judge), (164, 0, 293, yX11_power), (168, 0, 294, yX11_mighty), (172, 0, 296, yX11_rake), (177, 0, 299, yX11_sessions), (181, 0, 300, yX11_darts), (185, 0, 301, yX11_lucky), (190, 0, 304, yX11_sit), (194, 0, 305, yX11_fold), (198, 0, 306, yX11_aim), (202, 0, 307, yX11_warm), (207, 0, 308, yX11_stand), (211, 0, 309, yX11_session), (216, 0, 310, yX11_seed), (221, 0, 311, yX11_undo), (225, 0, 312, yX11_image), (229, 0, 313, yX11_back), (235, 0, 314, yX11_led), (242, 0, 315, yX11_size), (246, 0, 316, yX11_trouble)]
set_option maxRecDepth 20000 in
theorem zm_lo_12 : ∀ e ∈ zm_lk_12, zm_okL RL e := List.forall_mem_cons.mpr ⟨zm_l2 (zm_t (zm_c1 25 rfl) rfl) zm_im_113 rfl, List.forall_mem_cons.mpr ⟨zm_l0 (zm_t (zm_c2 231 rfl) rfl) zm_im_114 zm_se_114, List.forall_mem_cons.mpr ⟨zm_l0 (zm_t (zm_c3 3 rfl) rfl) zm_im_115 zm_se_115, List.forall_mem_cons.mpr ⟨zm_l0 (zm_t (zm_c3 204 rfl) rfl) zm_im_116 zm_se_116, List.forall_mem_cons.mpr ⟨zm_l0 (zm_t (zm_c3 208 rfl) rfl) zm_im_117 zm_se_117, List.forall_mem_cons.mpr ⟨zm_l0 (zm_t (zm_c3 212 rfl) rfl) zm_im_118 zm_se_118, List.forall_mem_cons.mpr ⟨zm_l0 (zm_t (zm_c4 37 rfl) rfl) zm_im_119 zm_se_119, List.forall_mem_cons.mpr ⟨zm_l0 (zm_t (zm_c4 45 rfl) rfl) zm_im_120 zm_se_120, List.forall_mem_cons.mpr ⟨zm_l0 (zm_t (zm_c4 53 rfl) rfl) zm_im_121 zm_se_121, List.forall_mem_cons.mpr ⟨zm_l0 (zm_t (zm_c4 67 rfl) rfl) zm_im_122 zm_se_122, List.forall_mem_cons.mpr ⟨zm_l0 (zm_t (zm_c4 73 rfl) rfl) zm_im_123 zm_se_123, List.forall_mem_cons.mpr ⟨zm_l0 (zm_t (zm_c4 78 rfl) rfl) zm_im_124 zm_se_124, List.forall_mem_cons.mpr ⟨zm_l0 (zm_t (zm_c4 83 rfl) rfl) zm_im_125 zm_se_125, List.forall_mem_cons.mpr ⟨zm_l0 (zm_t (zm_c4 98 rfl) rfl) zm_im_126 zm_se_126, List.forall_mem_cons.mpr ⟨zm_l0 (zm_t (zm_c4 102 rfl) rfl) zm_im_127 zm_se_127, List.forall_mem_cons.mpr ⟨zm_l0 (zm_t (zm_c4 106 rfl) rfl) zm_im_128 zm_se_128, List.forall_mem_cons.mpr ⟨zm_l0 (zm_t (zm_c4 124 rfl) rfl) zm_im_129 zm_se_129, List.forall_mem_cons.mpr ⟨zm_l0 (zm_t (zm_c4 148 rfl) rfl) zm_im_130 zm_se_130, List.forall_mem_cons.mpr ⟨zm_l0 (zm_t (zm_c4 178 rfl) rfl) zm_im_131 zm_se_131, List.forall_mem_cons.mpr ⟨zm_l0 (zm_t (zm_c4 187 rfl) rfl) zm_im_132 zm_se_132, List.forall_mem_cons.mpr ⟨zm_l0 (zm_t (zm_c4 191 rfl) rfl) zm_im_133 zm_se_133, List.forall_mem_cons.mpr ⟨zm_l0 (zm_t (zm_c4 199 rfl) rfl) zm_im_134 zm_se_134, List.forall_mem_cons.mpr ⟨zm_l0 (zm_t (zm_c4 208 rfl) rfl) zm_im_135 zm_se_135, List.forall_mem_cons.mpr ⟨zm_l0 (zm_t (zm_c4 212 rfl) rfl) zm_im_136 zm_se_136, List.forall_mem_cons.mpr ⟨zm_l0 (zm_t (zm_c4 220 rfl) rfl) zm_im_137 zm_se_137, List.forall_mem_cons.mpr ⟨zm_l0 (zm_t (zm_c5 10 rfl) rfl) zm_im_138 zm_se_138, List.forall_mem_cons.mpr ⟨zm_l0 (zm_t (zm_c5 14 rfl) rfl) zm_im_139 zm_se_139, List.forall_mem_cons.mpr ⟨zm_l0 (zm_t (zm_c5 25 rfl) rfl) zm_im_140 zm_se_140, List.forall_mem_cons.mpr ⟨zm_l0 (zm_t (zm_c5 41 rfl) rfl) zm_im_141 zm_se_141, List.forall_mem_cons.mpr ⟨zm_l0 (zm_t (zm_c5 45 rfl) rfl) zm_im_142 zm_se_142, List.forall_mem_cons.mpr ⟨zm_l0 (zm_t (zm_c5 75 rfl) rfl) zm_im_143 zm_se_143, List.forall_mem_cons.mpr ⟨zm_l0 (zm_t (zm_c5 83 rfl) rfl) zm_im_144 zm_se_144, List.forall_mem_cons.mpr ⟨zm_l0 (zm_t (zm_c5 91 rfl) rfl) zm_im_145 zm_se_145, List.forall_mem_cons.mpr ⟨zm_l0 (zm_t (zm_c5 113 rfl) rfl) zm_im_146 zm_se_146, List.forall_mem_cons.mpr ⟨zm_l0 (zm_t (zm_c5 117 rfl) rfl) zm_im_147 zm_se_147, List.forall_mem_cons.mpr ⟨zm_l0 (zm_t (zm_c5 122 rfl) rfl) zm_im_148 zm_se_148, List.forall_mem_cons.mpr ⟨zm_l0 (zm_t (zm_c5 144 rfl) rfl) zm_im_149 zm_se_149, List.forall_mem_cons.mpr ⟨zm_l0 (zm_t (zm_c5 152 rfl) rfl) zm_im_150 zm_se_150, List.forall_mem_cons.mpr ⟨zm_l0 (zm_t (zm_c5 169 rfl) rfl) zm_im_151 zm_se_151, List.forall_mem_cons.mpr ⟨zm_l0 (zm_t (zm_c5 206 rfl) rfl) zm_im_152 zm_se_152, List.forall_mem_cons.mpr ⟨zm_l0 (zm_t (zm_c5 210 rfl) rfl) zm_im_153 zm_se_153, List.forall_mem_cons.mpr ⟨zm_l0 (zm_t (zm_c5 214 rfl) rfl) zm_im_154 zm_se_154, List.forall_mem_cons.mpr ⟨zm_l0 (zm_t (zm_c5 228 rfl) rfl) zm_im_155 zm_se_155, List.forall_mem_cons.mpr ⟨zm_l0 (zm_t (zm_c5 232 rfl) rfl) zm_im_156 zm_se_156, List.forall_mem_cons.mpr ⟨zm_l0 (zm_t (zm_c5 236 rfl) rfl) zm_im_157 zm_se_157, List.forall_mem_cons.mpr ⟨zm_l0 (zm_t (zm_c6 0 rfl) rfl) zm_im_158 zm_se_158, List.forall_mem_cons.mpr ⟨zm_l0 (zm_t (zm_c6 5 rfl) rfl) zm_im_159 zm_se_159, List.forall_mem_cons.mpr ⟨zm_l0 (zm_t (zm_c6 11 rfl) rfl) zm_im_160 zm_se_160, List.forall_mem_cons.mpr ⟨zm_l0 (zm_t (zm_c6 15 rfl) rfl) zm_im_161 zm_se_161, List.forall_mem_cons.mpr ⟨zm_l0 (zm_t (zm_c6 23 rfl) rfl) zm_im_162 zm_se_162, List.forall_mem_cons.mpr ⟨zm_l0 (zm_t (zm_c6 35 rfl) rfl) zm_im_163 zm_se_163, List.forall_mem_cons.mpr ⟨zm_l0 (zm_t (zm_c6 43 rfl) rfl) zm_im_165 zm_se_165, List.forall_mem_cons.mpr ⟨zm_l0 (zm_t (zm_c6 47 rfl) rfl) zm_im_166 zm_se_166, List.forall_mem_cons.mpr ⟨zm_l1 (zm_t (zm_c6 51 rfl) rfl) zm_st_317, List.forall_mem_cons.mpr ⟨zm_l0 (zm_t (zm_c6 55 rfl) rfl) zm_im_164 zm_se_164, List.forall_mem_cons.mpr ⟨zm_l2 (zm_t (zm_c6 122 rfl) rfl) zm_im_175 rfl, List.forall_mem_cons.mpr ⟨zm_l0 (zm_t (zm_c7 1 rfl) rfl) zm_im_176 zm_se_176, List.forall_mem_cons.mpr ⟨zm_l0 (zm_t (zm_c7 5 rfl) rfl) zm_im_185 zm_se_185, List.forall_mem_cons.mpr ⟨zm_l0 (zm_t (zm_c7 9 rfl) rfl) zm_im_200 zm_se_200, List.forall_mem_cons.mpr ⟨zm_l0 (zm_t (zm_c7 149 rfl) rfl) zm_im_212 zm_se_212, List.forall_mem_cons.mpr ⟨zm_l0 (zm_t (zm_c7 153 rfl) rfl) zm_im_213 zm_se_213, List.forall_mem_cons.mpr ⟨zm_l0 (zm_t (zm_c7 157 rfl) rfl) zm_im_239 zm_se_239, List.forall_mem_cons.mpr ⟨zm_l0 (zm_t (zm_c8 7 rfl) rfl) zm_im_240 zm_se_240, List.forall_mem_cons.mpr ⟨zm_l0 (zm_t (zm_c8 19 rfl) rfl) zm_im_241 zm_se_241, List.forall_mem_cons.mpr ⟨zm_l0 (zm_t (zm_c8 27 rfl) rfl) zm_im_242 zm_se_242, List.forall_mem_cons.mpr ⟨zm_l0 (zm_t (zm_c8 35 rfl) rfl) zm_im_243 zm_se_243, List.forall_mem_cons.mpr ⟨zm_l0 (zm_t (zm_c8 39 rfl) rfl) zm_im_244 zm_se_244, List.forall_mem_cons.mpr ⟨zm_l0 (zm_t (zm_c8 43 rfl) rfl) zm_im_245 zm_se_245, List.forall_mem_cons.mpr ⟨zm_l0 (zm_t (zm_c8 47 rfl) rfl) zm_im_246 zm_se_246, List.forall_mem_cons.mpr ⟨zm_l0 (zm_t (zm_c8 55 rfl) rfl) zm_im_247 zm_se_247, List.forall_mem_cons.mpr ⟨zm_l0 (zm_t (zm_c8 59 rfl) rfl) zm_im_248 zm_se_248, List.forall_mem_cons.mpr ⟨zm_l0 (zm_t (zm_c8 63 rfl) rfl) zm_im_249 zm_se_249, List.forall_mem_cons.mpr ⟨zm_l0 (zm_t (zm_c8 67 rfl) rfl) zm_im_253 zm_se_253, List.forall_mem_cons.mpr ⟨zm_l0 (zm_t (zm_c8 87 rfl) rfl) zm_im_257 zm_se_257, List.forall_mem_cons.mpr ⟨zm_l0 (zm_t (zm_c8 102 rfl) rfl) zm_im_258 zm_se_258, List.forall_mem_cons.mpr ⟨zm_l0 (zm_t (zm_c8 106 rfl) rfl) zm_im_259 zm_se_259, List.forall_mem_cons.mpr ⟨zm_l0 (zm_t (zm_c8 110 rfl) rfl) zm_im_260 zm_se_260, List.forall_mem_cons.mpr ⟨zm_l0 (zm_t (zm_c8 114 rfl) rfl) zm_im_262 zm_se_262, List.forall_mem_cons.mpr ⟨zm_l0 (zm_t (zm_c8 122 rfl) rfl) zm_im_263 zm_se_263, List.forall_mem_cons.mpr ⟨zm_l0 (zm_t (zm_c8 126 rfl) rfl) zm_im_264 zm_se_264, List.forall_mem_cons.mpr ⟨zm_l0 (zm_t (zm_c8 130 rfl) rfl) zm_im_267 zm_se_267, List.forall_mem_cons.mpr ⟨zm_l0 (zm_t (zm_c8 142 rfl) rfl) zm_im_268 zm_se_268, List.forall_mem_cons.mpr ⟨zm_l0 (zm_t (zm_c8 146 rfl) rfl) zm_im_271 zm_se_271, List.forall_mem_cons.mpr ⟨zm_l0 (zm_t (zm_c8 158 rfl) rfl) zm_im_273 zm_se_273, List.forall_mem_cons.mpr ⟨zm_l0 (zm_t (zm_c8 166 rfl) rfl) zm_im_274 zm_se_274, List.forall_mem_cons.mpr ⟨zm_l0 (zm_t (zm_c8 170 rfl) rfl) zm_im_281 zm_se_281, List.forall_mem_cons.mpr ⟨zm_l0 (zm_t (zm_c8 198 rfl) rfl) zm_im_284 zm_se_284, List.forall_mem_cons.mpr ⟨zm_l0 (zm_t (zm_c8 210 rfl) rfl) zm_im_285 zm_se_285, List.forall_mem_cons.mpr ⟨zm_l0 (zm_t (zm_c8 214 rfl) rfl) zm_im_289 zm_se_289, List.forall_mem_cons.mpr ⟨zm_l0 (zm_t (zm_c8 230 rfl) rfl) zm_im_290 zm_se_290, List.forall_mem_cons.mpr ⟨zm_l0 (zm_t (zm_c8 234 rfl) rfl) zm_im_291 zm_se_291, List.forall_mem_cons.mpr ⟨zm_l0 (zm_t (zm_c8 238 rfl) rfl) zm_im_293 zm_se_293, List.forall_mem_cons.mpr ⟨zm_l0 (zm_t (zm_c9 6 rfl) rfl) zm_im_294 zm_se_294, List.forall_mem_cons.mpr ⟨zm_l0 (zm_t (zm_c9 10 rfl) rfl) zm_im_296 zm_se_296, List.forall_mem_cons.mpr ⟨zm_l0 (zm_t (zm_c9 18 rfl) rfl) zm_im_299 zm_se_299, List.forall_mem_cons.mpr ⟨zm_l0 (zm_t (zm_c9 32 rfl) rfl) zm_im_300 zm_se_300, List.forall_mem_cons.mpr ⟨zm_l0 (zm_t (zm_c9 36 rfl) rfl) zm_im_301 zm_se_301, List.forall_mem_cons.mpr ⟨zm_l0 (zm_t (zm_c9 40 rfl) rfl) zm_im_304 zm_se_304, List.forall_mem_cons.mpr ⟨zm_l0 (zm_t (zm_c9 56 rfl) rfl) zm_im_305 zm_se_305, List.forall_mem_cons.mpr ⟨zm_l0 (zm_t (zm_c9 60 rfl) rfl) zm_im_306 zm_se_306, List.forall_mem_cons.mpr ⟨zm_l0 (zm_t (zm_c9 64 rfl) rfl) zm_im_307 zm_se_307, List.forall_mem_cons.mpr ⟨zm_l0 (zm_t (zm_c9 68 rfl) rfl) zm_im_308 zm_se_308, List.forall_mem_cons.mpr ⟨zm_l0 (zm_t (zm_c9 72 rfl) rfl) zm_im_309 zm_se_309, List.forall_mem_cons.mpr ⟨zm_l0 (zm_t (zm_c9 76 rfl) rfl) zm_im_310 zm_se_310, List.forall_mem_cons.mpr ⟨zm_l0 (zm_t (zm_c9 80 rfl) rfl) zm_im_311 zm_se_311, List.forall_mem_cons.mpr ⟨zm_l0 (zm_t (zm_c9 84 rfl) rfl) zm_im_312 zm_se_312, List.forall_mem_cons.mpr ⟨zm_l0 (zm_t (zm_c9 88 rfl) rfl) zm_im_313 zm_se_313, List.forall_mem_cons.mpr ⟨zm_l0 (zm_t (zm_c9 92 rfl) rfl) zm_im_314 zm_se_314, List.forall_mem_cons.mpr ⟨zm_l0 (zm_t (zm_c9 96 rfl) rfl) zm_im_315 zm_se_315, List.forall_mem_cons.mpr ⟨zm_l0 (zm_t (zm_c9 100 rfl) rfl) zm_im_316 zm_se_316, List.forall_mem_nil _⟩⟩⟩⟩⟩⟩⟩⟩⟩⟩⟩⟩⟩⟩⟩⟩⟩⟩⟩⟩⟩⟩⟩⟩⟩⟩⟩⟩⟩⟩⟩⟩⟩⟩⟩⟩⟩⟩⟩⟩⟩⟩⟩⟩⟩⟩⟩⟩⟩⟩⟩⟩⟩⟩⟩⟩⟩⟩⟩⟩⟩⟩⟩⟩⟩⟩⟩⟩⟩⟩⟩⟩⟩⟩⟩⟩⟩⟩⟩⟩⟩⟩⟩⟩⟩⟩⟩⟩⟩⟩⟩⟩⟩⟩⟩⟩⟩⟩⟩⟩⟩⟩⟩⟩⟩⟩⟩⟩⟩⟩
def zm_cn : List String := [RX0, RX1, RX2, RX3, RX4, RX5, RX6, RX7, RX8, RX9, RX10, RX11, RL]
def zm_lkT : List (List zm_LK) := [zm_lk_0, zm_lk_1, zm_lk_2, zm_lk_3, zm_lk_4, zm_lk_5, zm_lk_6, zm_lk_7, zm_lk_8, zm_lk_9, zm_lk_10, zm_lk_11, zm_lk_12]
def zm_lkP (e : zm_LK) : Bool := decide (e.2.1 < 3 → (zm_mtL[e.2.2.1]?).map (fun m => m.1) = some e.2.2.2)
theorem zm_lkP_all : zm_lkT.all (fun l => l.all zm_lkP) = true := by decide +kernel
def zm_okF (own : String) (e : Nat × Nat × Nat) : Prop := ∃ q : vw_C, vwCl[e.2.1]? = some q ∧ e.2.2 < q.2.2 ∧ Cond.fieldLink own e.1 (q.2.1 e.2.2).1 (q.2.1 e.2.2).2.1 (q.2.1 e.2.2).2.2.1 ∈ zm_TW
theorem zm_f0 {own : String} {i c k : Nat} (q : vw_C) (h0 : vwCl[c]? = some q) (h1 : k < q.2.2) (h2 : Cond.fieldLink own i (q.2.1 k).1 (q.2.1 k).2.1 (q.2.1 k).2.2.1 ∈ zm_TW) : zm_okF own (i, c, k) := ⟨q, h0, h1, h2⟩
def zm_fk_0 : List (Nat × Nat × Nat) := [(9, 0, 0), (15, 3, 13)]
set_option maxRecDepth 20000 in
theorem zm_fo_0 : ∀ e ∈ zm_fk_0, zm_okF RX0 e := List.forall_mem_cons.mpr ⟨zm_f0 (RX0, TX0, 1) rfl (by decide) (zm_t (zm_c1 147 rfl) rfl), List.forall_mem_cons.mpr ⟨zm_f0 (RX3, TX3, 16) rfl (by decide) (zm_t (zm_c2 144 rfl) rfl), List.forall_mem_nil _⟩⟩
def zm_fk_1 : List (Nat × Nat × Nat) := [(12, 1, 0), (18, 1, 1), (22, 1, 2), (25, 1, 3), (28, 1, 4), (31, 1, 5), (35, 1, 6), (55, 3, 2), (66, 3, 12), (50, 3, 13)]
set_option maxRecDepth 20000 in
theorem zm_fo_1 : ∀ e ∈ zm_fk_1, zm_okF RX1 e := List.forall_mem_cons.mpr ⟨zm_f0 (RX1, TX1, 7) rfl (by decide) (zm_t (zm_c2 59 rfl) rfl), List.forall_mem_cons.mpr ⟨zm_f0 (RX1, TX1, 7) rfl (by decide) (zm_t (zm_c2 60 rfl) rfl), List.forall_mem_cons.mpr ⟨zm_f0 (RX1, TX1, 7) rfl (by decide) (zm_t (zm_c2 61 rfl) rfl), List.forall_mem_cons.mpr ⟨zm_f0 (RX1, TX1, 7) rfl (by decide) (zm_t (zm_c2 62 rfl) rfl), List.forall_mem_cons.mpr ⟨zm_f0 (RX1, TX1, 7) rfl (by decide) (zm_t (zm_c2 64 rfl) rfl), List.forall_mem_cons.mpr ⟨zm_f0 (RX1, TX1, 7) rfl (by decide) (zm_t (zm_c2 66 rfl) rfl), List.forall_mem_cons.mpr ⟨zm_f0 (RX1, TX1, 7) rfl (by decide) (zm_t (zm_c2 68 rfl) rfl), List.forall_mem_cons.mpr ⟨zm_f0 (RX3, TX3, 16) rfl (by decide) (zm_t (zm_c2 101 rfl) rfl), List.forall_mem_cons.mpr ⟨zm_f0 (RX3, TX3, 16) rfl (by decide) (zm_t (zm_c2 140 rfl) rfl), List.forall_mem_cons.mpr ⟨zm_f0 (RX3, TX3, 16) rfl (by decide) (zm_t (zm_c2 147 rfl) rfl), List.forall_mem_nil _⟩⟩⟩⟩⟩⟩⟩⟩⟩⟩
def zm_fk_2 : List (Nat × Nat × Nat) := [(9, 2, 0), (15, 2, 1), (18, 2, 2), (21, 2, 3), (24, 2, 4), (27, 2, 5), (30, 2, 6), (34, 2, 7), (37, 2, 8), (40, 2, 9), (43, 2, 10), (71, 3, 0), (81, 3, 5), (84, 3, 6), (90, 3, 7), (96, 3, 9), (62, 3, 10), (78, 3, 15)]
set_option maxRecDepth 20000 in
theorem zm_fo_2 : ∀ e ∈ zm_fk_2, zm_okF RX2 e := List.forall_mem_cons.mpr ⟨zm_f0 (RX2, TX2, 11) rfl (by decide) (zm_t (zm_c1 233 rfl) rfl), List.forall_mem_cons.mpr ⟨zm_f0 (RX2, TX2, 11) rfl (by decide) (zm_t (zm_c1 234 rfl) rfl), List.forall_mem_cons.mpr ⟨zm_f0 (RX2, TX2, 11) rfl (by decide) (zm_t (zm_c1 235 rfl) rfl), List.forall_mem_cons.mpr ⟨zm_f0 (RX2, TX2, 11) rfl (by decide) (zm_t (zm_c1 236 rfl) rfl), List.forall_mem_cons.mpr ⟨zm_f0 (RX2, TX2, 11) rfl (by decide) (zm_t (zm_c1 237 rfl) rfl), List.forall_mem_cons.mpr ⟨zm_f0 (RX2, TX2, 11) rfl (by decide) (zm_t (zm_c1 238 rfl) rfl), List.forall_mem_cons.mpr ⟨zm_f0 (RX2, TX2, 11) rfl (by decide) (zm_t (zm_c2 0 rfl) rfl), List.forall_mem_cons.mpr ⟨zm_f0 (RX2, TX2, 11) rfl (by decide) (zm_t (zm_c2 1 rfl) rfl), List.forall_mem_cons.mpr ⟨zm_f0 (RX2, TX2, 11) rfl (by decide) (zm_t (zm_c2 3 rfl) rfl), List.forall_mem_cons.mpr ⟨zm_f0 (RX2, TX2, 11) rfl (by decide) (zm_t (zm_c2 5 rfl) rfl), List.forall_mem_cons.mpr ⟨zm_f0 (RX2, TX2, 11) rfl (by decide) (zm_t (zm_c2 7 rfl) rfl), List.forall_mem_cons.mpr ⟨zm_f0 (RX3, TX3, 16) rfl (by decide) (zm_t (zm_c2 93 rfl) rfl), List.forall_mem_cons.mpr ⟨zm_f0 (RX3, TX3, 16) rfl (by decide) (zm_t (zm_c2 109 rfl) rfl), List.forall_mem_cons.mpr ⟨zm_f0 (RX3, TX3, 16) rfl (by decide) (zm_t (zm_c2 113 rfl) rfl), List.forall_mem_cons.mpr ⟨zm_f0 (RX3, TX3, 16) rfl (by decide) (zm_t (zm_c2 117 rfl) rfl), List.forall_mem_cons.mpr ⟨zm_f0 (RX3, TX3, 16) rfl (by decide) (zm_t (zm_c2 124 rfl) rfl), List.forall_mem_cons.mpr ⟨zm_f0 (RX3, TX3, 16) rfl (by decide) (zm_t (zm_c2 128 rfl) rfl), List.forall_mem_cons.mpr ⟨zm_f0 (RX3, TX3, 16) rfl (by decide) (zm_t (zm_c2 155 rfl) rfl), List.forall_mem_nil _⟩⟩⟩⟩⟩⟩⟩⟩⟩⟩⟩⟩⟩⟩⟩⟩⟩⟩
def zm_fk_3 : List (Nat × Nat × Nat) := [(11, 3, 0), (15, 3, 1), (18, 3, 2), (21, 3, 3), (24, 3, 4), (27, 3, 5), (30, 3, 6), (33, 3, 7), (36, 3, 8), (39, 3, 9), (43, 3, 10), (46, 3, 11), (49, 3, 12), (52, 3, 13), (55, 3, 14), (58, 3, 15)]
set_option maxRecDepth 20000 in
theorem zm_fo_3 : ∀ e ∈ zm_fk_3, zm_okF RX3 e := List.forall_mem_cons.mpr ⟨zm_f0 (RX3, TX3, 16) rfl (by decide) (zm_t (zm_c2 91 rfl) rfl), List.forall_mem_cons.mpr ⟨zm_f0 (RX3, TX3, 16) rfl (by decide) (zm_t (zm_c2 97 rfl) rfl), List.forall_mem_cons.mpr ⟨zm_f0 (RX3, TX3, 16) rfl (by decide) (zm_t (zm_c2 100 rfl) rfl), List.forall_mem_cons.mpr ⟨zm_f0 (RX3, TX3, 16) rfl (by decide) (zm_t (zm_c2 104 rfl) rfl), List.forall_mem_cons.mpr ⟨zm_f0 (RX3, TX3, 16) rfl (by decide) (zm_t (zm_c2 106 rfl) rfl), List.forall_mem_cons.mpr ⟨zm_f0 (RX3, TX3, 16) rfl (by decide) (zm_t (zm_c2 108 rfl) rfl), List.forall_mem_cons.mpr ⟨zm_f0 (RX3, TX3, 16) rfl (by decide) (zm_t (zm_c2 112 rfl) rfl), List.forall_mem_cons.mpr ⟨zm_f0 (RX3, TX3, 16) rfl (by decide) (zm_t (zm_c2 116 rfl) rfl), List.forall_mem_cons.mpr ⟨zm_f0 (RX3, TX3, 16) rfl (by decide) (zm_t (zm_c2 120 rfl) rfl), List.forall_mem_cons.mpr ⟨zm_f0 (RX3, TX3, 16) rfl (by decide) (zm_t (zm_c2 121 rfl) rfl), List.forall_mem_cons.mpr ⟨zm_f0 (RX3, TX3, 16) rfl (by decide) (zm_t (zm_c2 127 rfl) rfl), List.forall_mem_cons.mpr ⟨zm_f0 (RX3, TX3, 16) rfl (by decide) (zm_t (zm_c2 133 rfl) rfl), List.forall_mem_cons.mpr ⟨zm_f0 (RX3, TX3, 16) rfl (by decide) (zm_t (zm_c2 136 rfl) rfl), List.forall_mem_cons.mpr ⟨zm_f0 (RX3, TX3, 16) rfl (by decide) (zm_t (zm_c2 143 rfl) rfl), List.forall_mem_cons.mpr ⟨zm_f0 (RX3, TX3, 16) rfl (by decide) (zm_t (zm_c2 151 rfl) rfl), List.forall_mem_cons.mpr ⟨zm_f0 (RX3, TX3, 16) rfl (by decide) (zm_t (zm_c2 154 rfl) rfl), List.forall_mem_nil _⟩⟩⟩⟩⟩⟩⟩⟩⟩⟩⟩⟩⟩⟩⟩⟩
def zm_fk_4 : List (Nat × Nat × Nat) := [(12, 4, 0), (18, 4, 1), (22, 4, 2), (26, 4, 3), (29, 4, 4), (33, 4, 5), (36, 4, 6), (78, 3, 0), (85, 3, 9), (75, 3, 10), (58, 3, 12), (53, 3, 13)]
set_option maxRecDepth 20000 in
theorem zm_fo_4 : ∀ e ∈ zm_fk_4, zm_okF RX4 e := List.forall_mem_cons.mpr ⟨zm_f0 (RX4, TX4, 7) rfl (by decide) (zm_t (zm_c1 151 rfl) rfl), List.forall_mem_cons.mpr ⟨zm_f0 (RX4, TX4, 7) rfl (by decide) (zm_t (zm_c1 152 rfl) rfl), List.forall_mem_cons.mpr ⟨zm_f0 (RX4, TX4, 7) rfl (by decide) (zm_t (zm_c1 153 rfl) rfl), List.forall_mem_cons.mpr ⟨zm_f0 (RX4, TX4, 7) rfl (by decide) (zm_t (zm_c1 155 rfl) rfl), List.forall_mem_cons.mpr ⟨zm_f0 (RX4, TX4, 7) rfl (by decide) (zm_t (zm_c1 157 rfl) rfl), List.forall_mem_cons.mpr ⟨zm_f0 (RX4, TX4, 7) rfl (by decide) (zm_t (zm_c1 159 rfl) rfl), List.forall_mem_cons.mpr ⟨zm_f0 (RX4, TX4, 7) rfl (by decide) (zm_t (zm_c1 161 rfl) rfl), List.forall_mem_cons.mpr ⟨zm_f0 (RX3, TX3, 16) rfl (by decide) (zm_t (zm_c2 95 rfl) rfl), List.forall_mem_cons.mpr ⟨zm_f0 (RX3, TX3, 16) rfl (by decide) (zm_t (zm_c2 125 rfl) rfl), List.forall_mem_cons.mpr ⟨zm_f0 (RX3, TX3, 16) rfl (by decide) (zm_t (zm_c2 131 rfl) rfl), List.forall_mem_cons.mpr ⟨zm_f0 (RX3, TX3, 16) rfl (by decide) (zm_t (zm_c2 142 rfl) rfl), List.forall_mem_cons.mpr ⟨zm_f0 (RX3, TX3, 16) rfl (by decide) (zm_t (zm_c2 148 rfl) rfl), List.forall_mem_nil _⟩⟩⟩⟩⟩⟩⟩⟩⟩⟩⟩⟩
def zm_fk_5 : List (Nat × Nat × Nat) := [(11, 5, 0), (15, 5, 1), (18, 5, 2), (22, 5, 3), (25, 5, 4)]
set_option maxRecDepth 20000 in
theorem zm_fo_5 : ∀ e ∈ zm_fk_5, zm_okF RX5 e := List.forall_mem_cons.mpr ⟨zm_f0 (RX5, TX5, 5) rfl (by decide) (zm_t (zm_c1 116 rfl) rfl), List.forall_mem_cons.mpr ⟨zm_f0 (RX5, TX5, 5) rfl (by decide) (zm_t (zm_c1 117 rfl) rfl), List.forall_mem_cons.mpr ⟨zm_f0 (RX5, TX5, 5) rfl (by decide) (zm_t (zm_c1 118 rfl) rfl), List.forall_mem_cons.mpr ⟨zm_f0 (RX5, TX5, 5) rfl (by decide) (zm_t (zm_c1 119 rfl) rfl), List.forall_mem_cons.mpr ⟨zm_f0 (RX5, TX5, 5) rfl (by decide) (zm_t (zm_c1 121 rfl) rfl), List.forall_mem_nil _⟩⟩⟩⟩⟩
def zm_fk_6 : List (Nat × Nat × Nat) := [(11, 6, 0), (17, 6, 1), (20, 6, 2), (23, 6, 3), (26, 6, 4), (29, 6, 5), (33, 6, 6), (36, 6, 7), (39, 6, 8), (42, 6, 9), (45, 6, 10), (48, 6, 11), (51, 3, 0), (86, 3, 9), (83, 3, 10), (60, 3, 12), (61, 3, 13)]
set_option maxRecDepth 20000 in
theorem zm_fo_6 : ∀ e ∈ zm_fk_6, zm_okF RX6 e := List.forall_mem_cons.mpr ⟨zm_f0 (RX6, TX6, 12) rfl (by decide) (zm_t (zm_c1 184 rfl) rfl), List.forall_mem_cons.mpr ⟨zm_f0 (RX6, TX6, 12) rfl (by decide) (zm_t (zm_c1 186 rfl) rfl), List.forall_mem_cons.mpr ⟨zm_f0 (RX6, TX6, 12) rfl (by decide) (zm_t (zm_c1 187 rfl) rfl), List.forall_mem_cons.mpr ⟨zm_f0 (RX6, TX6, 12) rfl (by decide) (zm_t (zm_c1 188 rfl) rfl), List.forall_mem_cons.mpr ⟨zm_f0 (RX6, TX6, 12) rfl (by decide) (zm_t (zm_c1 189 rfl) rfl), List.forall_mem_cons.mpr ⟨zm_f0 (RX6, TX6, 12) rfl (by decide) (zm_t (zm_c1 190 rfl) rfl), List.forall_mem_cons.mpr ⟨zm_f0 (RX6, TX6, 12) rfl (by decide) (zm_t (zm_c1 191 rfl) rfl), List.forall_mem_cons.mpr ⟨zm_f0 (RX6, TX6, 12) rfl (by decide) (zm_t (zm_c1 192 rfl) rfl), List.forall_mem_cons.mpr ⟨zm_f0 (RX6, TX6, 12) rfl (by decide) (zm_t (zm_c1 194 rfl) rfl), List.forall_mem_cons.mpr ⟨zm_f0 (RX6, TX6, 12) rfl (by decide) (zm_t (zm_c1 196 rfl) rfl), List.forall_mem_cons.mpr ⟨zm_f0 (RX6, TX6, 12) rfl (by decide) (zm_t (zm_c1 198 rfl) rfl), List.forall_mem_cons.mpr ⟨zm_f0 (RX6, TX6, 12) rfl (by decide) (zm_t (zm_c1 200 rfl) rfl), List.forall_mem_cons.mpr ⟨zm_f0 (RX3, TX3, 16) rfl (by decide) (zm_t (zm_c2 92 rfl) rfl), List.forall_mem_cons.mpr ⟨zm_f0 (RX3, TX3, 16) rfl (by decide) (zm_t (zm_c2 122 rfl) rfl), List.forall_mem_cons.mpr ⟨zm_f0 (RX3, TX3, 16) rfl (by decide) (zm_t (zm_c2 129 rfl) rfl), List.forall_mem_cons.mpr ⟨zm_f0 (RX3, TX3, 16) rfl (by decide) (zm_t (zm_c2 137 rfl) rfl), List.forall_mem_cons.mpr ⟨zm_f0 (RX3, TX3, 16) rfl (by decide) (zm_t (zm_c2 145 rfl) rfl), List.forall_mem_nil _⟩⟩⟩⟩⟩⟩⟩⟩⟩⟩⟩⟩⟩⟩⟩⟩⟩
def zm_fk_7 : List (Nat × Nat × Nat) := [(61, 9, 4), (71, 9, 5), (209, 9, 6), (218, 9, 7), (12, 7, 0), (18, 7, 1), (22, 7, 2), (26, 7, 3), (30, 7, 4), (33, 7, 5), (36, 7, 6), (39, 7, 7), (42, 7, 8), (45, 7, 9), (166, 3, 0), (186, 3, 1), (190, 3, 2), (192, 3, 3), (195, 3, 4), (198, 3, 5), (201, 3, 6), (206, 3, 7), (128, 3, 9), (153, 3, 10), (157, 3, 11), (68, 3, 12), (134, 3, 13), (137, 3, 14), (140, 3, 15)]
set_option maxRecDepth 20000 in
theorem zm_fo_7 : ∀ e ∈ zm_fk_7, zm_okF RX7 e := List.forall_mem_cons.mpr ⟨zm_f0 (RX9, TX9, 8) rfl (by decide) (zm_t (zm_c1 49 rfl) rfl), List.forall_mem_cons.mpr ⟨zm_f0 (RX9, TX9, 8) rfl (by decide) (zm_t (zm_c1 51 rfl) rfl), List.forall_mem_cons.mpr ⟨zm_f0 (RX9, TX9, 8) rfl (by decide) (zm_t (zm_c1 53 rfl) rfl), List.forall_mem_cons.mpr ⟨zm_f0 (RX9, TX9, 8) rfl (by decide) (zm_t (zm_c1 55 rfl) rfl), List.forall_mem_cons.mpr ⟨zm_f0 (RX7, TX7, 10) rfl (by decide) (zm_t (zm_c1 74 rfl) rfl), List.forall_mem_cons.mpr ⟨zm_f0 (RX7, TX7, 10) rfl (by decide) (zm_t (zm_c1 76 rfl) rfl), List.forall_mem_cons.mpr ⟨zm_f0 (RX7, TX7, 10) rfl (by decide) (zm_t (zm_c1 77 rfl) rfl), List.forall_mem_cons.mpr ⟨zm_f0 (RX7, TX7, 10) rfl (by decide) (zm_t (zm_c1 78 rfl) rfl), List.forall_mem_cons.mpr ⟨zm_f0 (RX7, TX7, 10) rfl (by decide) (zm_t (zm_c1 79 rfl) rfl), List.forall_mem_cons.mpr ⟨zm_f0 (RX7, TX7, 10) rfl (by decide) (zm_t (zm_c1 80 rfl) rfl), List.forall_mem_cons.mpr ⟨zm_f0 (RX7, TX7, 10) rfl (by decide) (zm_t (zm_c1 81 rfl) rfl), List.forall_mem_cons.mpr ⟨zm_f0 (RX7, TX7, 10) rfl (by decide) (zm_t (zm_c1 82 rfl) rfl), List.forall_mem_cons.mpr ⟨zm_f0 (RX7, TX7, 10) rfl (by decide) (zm_t (zm_c1 83 rfl) rfl), List.forall_mem_cons.mpr ⟨zm_f0 (RX7, TX7, 10) rfl (by decide) (zm_t (zm_c1 85 rfl) rfl), List.forall_mem_cons.mpr ⟨zm_f0 (RX3, TX3, 16) rfl (by decide) (zm_t (zm_c2 96 rfl) rfl), List.forall_mem_cons.mpr ⟨zm_f0 (RX3, TX3, 16) rfl (by decide) (zm_t (zm_c2 99 rfl) rfl), List.forall_mem_cons.mpr ⟨zm_f0 (RX3, TX3, 16) rfl (by decide) (zm_t (zm_c2 103 rfl) rfl), List.forall_mem_cons.mpr ⟨zm_f0 (RX3, TX3, 16) rfl (by decide) (zm_t (zm_c2 105 rfl) rfl), List.forall_mem_cons.mpr ⟨zm_f0 (RX3, TX3, 16) rfl (by decide) (zm_t (zm_c2 107 rfl) rfl), List.forall_mem_cons.mpr ⟨zm_f0 (RX3, TX3, 16) rfl (by decide) (zm_t (zm_c2 110 rfl) rfl), List.forall_mem_cons.mpr ⟨zm_f0 (RX3, TX3, 16) rfl (by decide) (zm_t (zm_c2 114 rfl) rfl), List.forall_mem_cons.mpr ⟨zm_f0 (RX3, TX3, 16) rfl (by decide) (zm_t (zm_c2 118 rfl) rfl), List.forall_mem_cons.mpr ⟨zm_f0 (RX3, TX3, 16) rfl (by decide) (zm_t (zm_c2 123 rfl) rfl), List.forall_mem_cons.mpr ⟨zm_f0 (RX3, TX3, 16) rfl (by decide) (zm_t (zm_c2 130 rfl) rfl), List.forall_mem_cons.mpr ⟨zm_f0 (RX3, TX3, 16) rfl (by decide) (zm_t (zm_c2 135 rfl) rfl), List.forall_mem_cons.mpr ⟨zm_f0 (RX3, TX3, 16) rfl (by decide) (zm_t (zm_c2 138 rfl) rfl), List.forall_mem_cons.mpr ⟨zm_f0 (RX3, TX3, 16) rfl (by decide) (zm_t (zm_c2 149 rfl) rfl), List.forall_mem_cons.mpr ⟨zm_f0 (RX3, TX3, 16) rfl (by decide) (zm_t (zm_c2 152 rfl) rfl), List.forall_mem_cons.mpr ⟨zm_f0 (RX3, TX3, 16) rfl (by decide) (zm_t (zm_c2 156 rfl) rfl), List.forall_mem_nil _⟩⟩⟩⟩⟩⟩⟩⟩⟩⟩⟩⟩⟩⟩⟩⟩⟩⟩⟩⟩⟩⟩⟩⟩⟩⟩⟩⟩⟩
def zm_fk_8 : List (Nat × Nat × Nat) := [(9, 8, 0), (15, 8, 1), (18, 8, 2), (21, 8, 3), (46, 3, 12), (32, 3, 13)]
set_option maxRecDepth 20000 in
theorem zm_fo_8 : ∀ e ∈ zm_fk_8, zm_okF RX8 e := List.forall_mem_cons.mpr ⟨zm_f0 (RX8, TX8, 4) rfl (by decide) (zm_t (zm_c2 38 rfl) rfl), List.forall_mem_cons.mpr ⟨zm_f0 (RX8, TX8, 4) rfl (by decide) (zm_t (zm_c2 39 rfl) rfl), List.forall_mem_cons.mpr ⟨zm_f0 (RX8, TX8, 4) rfl (by decide) (zm_t (zm_c2 40 rfl) rfl), List.forall_mem_cons.mpr ⟨zm_f0 (RX8, TX8, 4) rfl (by decide) (zm_t (zm_c2 41 rfl) rfl), List.forall_mem_cons.mpr ⟨zm_f0 (RX3, TX3, 16) rfl (by decide) (zm_t (zm_c2 141 rfl) rfl), List.forall_mem_cons.mpr ⟨zm_f0 (RX3, TX3, 16) rfl (by decide) (zm_t (zm_c2 146 rfl) rfl), List.forall_mem_nil _⟩⟩⟩⟩⟩⟩
def zm_fk_9 : List (Nat × Nat × Nat) := [(9, 9, 0), (13, 9, 1), (17, 9, 2), (20, 9, 3), (23, 9, 4), (26, 9, 5), (29, 9, 6), (32, 9, 7)]
set_option maxRecDepth 20000 in
theorem zm_fo_9 : ∀ e ∈ zm_fk_9, zm_okF RX9 e := List.forall_mem_cons.mpr ⟨zm_f0 (RX9, TX9, 8) rfl (by decide) (zm_t (zm_c1 43 rfl) rfl), List.forall_mem_cons.mpr ⟨zm_f0 (RX9, TX9, 8) rfl (by decide) (zm_t (zm_c1 44 rfl) rfl), List.forall_mem_cons.mpr ⟨zm_f0 (RX9, TX9, 8) rfl (by decide) (zm_t (zm_c1 46 rfl) rfl), List.forall_mem_cons.mpr ⟨zm_f0 (RX9, TX9, 8) rfl (by decide) (zm_t (zm_c1 47 rfl) rfl), List.forall_mem_cons.mpr ⟨zm_f0 (RX9, TX9, 8) rfl (by decide) (zm_t (zm_c1 48 rfl) rfl), List.forall_mem_cons.mpr ⟨zm_f0 (RX9, TX9, 8) rfl (by decide) (zm_t (zm_c1 50 rfl) rfl), List.forall_mem_cons.mpr ⟨zm_f0 (RX9, TX9, 8) rfl (by decide) (zm_t (zm_c1 52 rfl) rfl), List.forall_mem_cons.mpr ⟨zm_f0 (RX9, TX9, 8) rfl (by decide) (zm_t (zm_c1 54 rfl) rfl), List.forall_mem_nil _⟩⟩⟩⟩⟩⟩⟩⟩
def zm_fk_10 : List (Nat × Nat × Nat) := [(93, 9, 1), (16, 7, 0), (104, 7, 8), (107, 7, 9), (357, 5, 3), (370, 5, 4), (195, 4, 2), (207, 4, 3), (217, 4, 4), (220, 4, 5), (223, 4, 6), (249, 6, 0), (233, 6, 7), (236, 6, 8), (237, 6, 9), (256, 6, 10), (259, 6, 11), (271, 2, 5), (265, 2, 7), (283, 2, 8), (286, 2, 9), (289, 2, 10), (324, 1, 3), (330, 1, 4), (327, 1, 5), (353, 1, 6), (124, 3, 0), (134, 3, 1), (137, 3, 2), (295, 3, 5), (298, 3, 6), (305, 3, 7), (380, 3, 9), (383, 3, 10), (140, 3, 11), (113, 3, 12), (173, 3, 13), (386, 3, 14), (292, 3, 15), (20, 10, 0), (10, 10, 1), (24, 10, 2), (31, 10, 3), (38, 10, 4), (45, 10, 5), (52, 10, 6), (59, 10, 7), (66, 10, 8), (70, 10, 9), (73, 10, 10), (77, 10, 11), (80, 10, 12)]
set_option maxRecDepth 20000 in
theorem zm_fo_10 : ∀ e ∈ zm_fk_10, zm_okF RX10 e := List.forall_mem_cons.mpr ⟨zm_f0 (RX9, TX9, 8) rfl (by decide) (zm_t (zm_c1 45 rfl) rfl), List.forall_mem_cons.mpr ⟨zm_f0 (RX7, TX7, 10) rfl (by decide) (zm_t (zm_c1 75 rfl) rfl), List.forall_mem_cons.mpr ⟨zm_f0 (RX7, TX7, 10) rfl (by decide) (zm_t (zm_c1 84 rfl) rfl), List.forall_mem_cons.mpr ⟨zm_f0 (RX7, TX7, 10) rfl (by decide) (zm_t (zm_c1 86 rfl) rfl), List.forall_mem_cons.mpr ⟨zm_f0 (RX5, TX5, 5) rfl (by decide) (zm_t (zm_c1 120 rfl) rfl), List.forall_mem_cons.mpr ⟨zm_f0 (RX5, TX5, 5) rfl (by decide) (zm_t (zm_c1 122 rfl) rfl), List.forall_mem_cons.mpr ⟨zm_f0 (RX4, TX4, 7) rfl (by decide) (zm_t (zm_c1 154 rfl) rfl), List.forall_mem_cons.mpr ⟨zm_f0 (RX4, TX4, 7) rfl (by decide) (zm_t (zm_c1 156 rfl) rfl), List.forall_mem_cons.mpr ⟨zm_f0 (RX4, TX4, 7) rfl (by decide) (zm_t (zm_c1 158 rfl) rfl), List.forall_mem_cons.mpr ⟨zm_f0 (RX4, TX4, 7) rfl (by decide) (zm_t (zm_c1 160 rfl) rfl), List.forall_mem_cons.mpr ⟨zm_f0 (RX4, TX4, 7) rfl (by decide) (zm_t (zm_c1 162 rfl) rfl), List.forall_mem_cons.mpr ⟨zm_f0 (RX6, TX6, 12) rfl (by decide) (zm_t (zm_c1 185 rfl) rfl), List.forall_mem_cons.mpr ⟨zm_f0 (RX6, TX6, 12) rfl (by decide) (zm_t (zm_c1 193 rfl) rfl), List.forall_mem_cons.mpr ⟨zm_f0 (RX6, TX6, 12) rfl (by decide) (zm_t (zm_c1 195 rfl) rfl), List.forall_mem_cons.mpr ⟨zm_f0 (RX6, TX6, 12) rfl (by decide) (zm_t (zm_c1 197 rfl) rfl), List.forall_mem_cons.mpr ⟨zm_f0 (RX6, TX6, 12) rfl (by decide) (zm_t (zm_c1 199 rfl) rfl), List.forall_mem_cons.mpr ⟨zm_f0 (RX6, TX6, 12) rfl (by decide) (zm_t (zm_c1 201 rfl) rfl), List.forall_mem_cons.mpr ⟨zm_f0 (RX2, TX2, 11) rfl (by decide) (zm_t (zm_c1 239 rfl) rfl), List.forall_mem_cons.mpr ⟨zm_f0 (RX2, TX2, 11) rfl (by decide) (zm_t (zm_c2 2 rfl) rfl), List.forall_mem_cons.mpr ⟨zm_f0 (RX2, TX2, 11) rfl (by decide) (zm_t (zm_c2 4 rfl) rfl), List.forall_mem_cons.mpr ⟨zm_f0 (RX2, TX2, 11) rfl (by decide) (zm_t (zm_c2 6 rfl) rfl), List.forall_mem_cons.mpr ⟨zm_f0 (RX2, TX2, 11) rfl (by decide) (zm_t (zm_c2 8 rfl) rfl), List.forall_mem_cons.mpr ⟨zm_f0 (RX1, TX1, 7) rfl (by decide) (zm_t (zm_c2 63 rfl) rfl), List.forall_mem_cons.mpr ⟨zm_f0 (RX1, TX1, 7) rfl (by decide) (zm_t (zm_c2 65 rfl) rfl), List.forall_mem_cons.mpr ⟨zm_f0 (RX1, TX1, 7) rfl (by decide) (zm_t (zm_c2 67 rfl) rfl), List.forall_mem_cons.mpr ⟨zm_f0 (RX1, TX1, 7) rfl (by decide) (zm_t (zm_c2 69 rfl) rfl), List.forall_mem_cons.mpr ⟨zm_f0 (RX3, TX3, 16) rfl (by decide) (zm_t (zm_c2 94 rfl) rfl), List.forall_mem_cons.mpr ⟨zm_f0 (RX3, TX3, 16) rfl (by decide) (zm_t (zm_c2 98 rfl) rfl), List.forall_mem_cons.mpr ⟨zm_f0 (RX3, TX3, 16) rfl (by decide) (zm_t (zm_c2 102 rfl) rfl), List.forall_mem_cons.mpr ⟨zm_f0 (RX3, TX3, 16) rfl (by decide) (zm_t (zm_c2 111 rfl) rfl), List.forall_mem_cons.mpr ⟨zm_f0 (RX3, TX3, 16) rfl (by decide) (zm_t (zm_c2 115 rfl) rfl), List.forall_mem_cons.mpr ⟨zm_f0 (RX3, TX3, 16) rfl (by decide) (zm_t (zm_c2 119 rfl) rfl), List.forall_mem_cons.mpr ⟨zm_f0 (RX3, TX3, 16) rfl (by decide) (zm_t (zm_c2 126 rfl) rfl), List.forall_mem_cons.mpr ⟨zm_f0 (RX3, TX3, 16) rfl (by decide) (zm_t (zm_c2 132 rfl) rfl), List.forall_mem_cons.mpr ⟨zm_f0 (RX3, TX3, 16) rfl (by decide) (zm_t (zm_c2 134 rfl) rfl), List.forall_mem_cons.mpr ⟨zm_f0 (RX3, TX3, 16) rfl (by decide) (zm_t (zm_c2 139 rfl) rfl), List.forall_mem_cons.mpr ⟨zm_f0 (RX3, TX3, 16) rfl (by decide) (zm_t (zm_c2 150 rfl) rfl), List.forall_mem_cons.mpr ⟨zm_f0 (RX3, TX3, 16) rfl (by decide) (zm_t (zm_c2 153 rfl) rfl), List.forall_mem_cons.mpr ⟨zm_f0 (RX3, TX3, 16) rfl (by decide) (zm_t (zm_c2 157 rfl) rfl), List.forall_mem_cons.mpr ⟨zm_f0 (RX10, TX10, 13) rfl (by decide) (zm_t (zm_c2 191 rfl) rfl), List.forall_mem_cons.mpr ⟨zm_f0 (RX10, TX10, 13) rfl (by decide) (zm_t (zm_c2 192 rfl) rfl), List.forall_mem_cons.mpr ⟨zm_f0 (RX10, TX10, 13) rfl (by decide) (zm_t (zm_c2 193 rfl) rfl), List.forall_mem_cons.mpr ⟨zm_f0 (RX10, TX10, 13) rfl (by decide) (zm_t (zm_c2 194 rfl) rfl), List.forall_mem_cons.mpr ⟨zm_f0 (RX10, TX10, 13) rfl (by decide) (zm_t (zm_c2 195 rfl) rfl), List.forall_mem_cons.mpr ⟨zm_f0 (RX10, TX10, 13) rfl (by decide) (zm_t (zm_c2 196 rfl) rfl), List.forall_mem_cons.mpr ⟨zm_f0 (RX10, TX10, 13) rfl (by decide) (zm_t (zm_c2 197 rfl) rfl), List.forall_mem_cons.mpr ⟨zm_f0 (RX10, TX10, 13) rfl (by decide) (zm_t (zm_c2 198 rfl) rfl), List.forall_mem_cons.mpr ⟨zm_f0 (RX10, TX10, 13) rfl (by decide) (zm_t (zm_c2 199 rfl) rfl), List.forall_mem_cons.mpr ⟨zm_f0 (RX10, TX10, 13) rfl (by decide) (zm_t (zm_c2 200 rfl) rfl), List.forall_mem_cons.mpr ⟨zm_f0 (RX10, TX10, 13) rfl (by decide) (zm_t (zm_c2 201 rfl) rfl), List.forall_mem_cons.mpr ⟨zm_f0 (RX10, TX10, 13) rfl (by decide) (zm_t (zm_c2 202 rfl) rfl), List.forall_mem_cons.mpr ⟨zm_f0 (RX10, TX10, 13) rfl (by decide) (zm_t (zm_c2 203 rfl) rfl), List.forall_mem_nil _⟩⟩⟩⟩⟩⟩⟩⟩⟩⟩⟩⟩⟩⟩⟩⟩⟩⟩⟩⟩⟩⟩⟩⟩⟩⟩⟩⟩⟩⟩⟩⟩⟩⟩⟩⟩⟩⟩⟩⟩⟩⟩⟩⟩⟩⟩⟩⟩⟩⟩⟩⟩
def zm_fk_11 : List (Nat × Nat × Nat) := [(63, 11, 0), (7, 11, 1), (69, 11, 2), (72, 11, 3), (82, 11, 4), (75, 11, 5), (91, 11, 6), (88, 11, 7), (85, 11, 8), (105, 11, 9), (13, 11, 10), (66, 11, 11), (17, 11, 12), (101, 11, 13), (177, 11, 14), (20, 11, 15), (23, 11, 16), (26, 11, 17), (29, 11, 18), (32, 11, 19), (180, 11, 20), (183, 11, 21), (35, 11, 22), (38, 11, 23), (41, 11, 24), (44, 11, 25), (357, 11, 26), (47, 11, 27), (372, 11, 28), (378, 11, 29), (51, 11, 30), (54, 11, 31), (394, 11, 32), (57, 11, 33), (424, 11, 34), (439, 11, 35), (60, 11, 36), (445, 11, 37)]
set_option maxRecDepth 20000 in
theorem zm_fo_11 : ∀ e ∈ zm_fk_11, zm_okF RX11 e := List.forall_mem_cons.mpr ⟨zm_f0 (RX11, TX11, 38) rfl (by decide) (zm_t (zm_c6 126 rfl) rfl), List.forall_mem_cons.mpr ⟨zm_f0 (RX11, TX11, 38) rfl (by decide) (zm_t (zm_c6 127 rfl) rfl), List.forall_mem_cons.mpr ⟨zm_f0 (RX11, TX11, 38) rfl (by decide) (zm_t (zm_c6 128 rfl) rfl), List.forall_mem_cons.mpr ⟨zm_f0 (RX11, TX11, 38) rfl (by decide) (zm_t (zm_c6 129 rfl) rfl), List.forall_mem_cons.mpr ⟨zm_f0 (RX11, TX11, 38) rfl (by decide) (zm_t (zm_c6 130 rfl) rfl), List.forall_mem_cons.mpr ⟨zm_f0 (RX11, TX11, 38) rfl (by decide) (zm_t (zm_c6 131 rfl) rfl), List.forall_mem_cons.mpr ⟨zm_f0 (RX11, TX11, 38) rfl (by decide) (zm_t (zm_c6 132 rfl) rfl), List.forall_mem_cons.mpr ⟨zm_f0 (RX11, TX11, 38) rfl (by decide) (zm_t (zm_c6 133 rfl) rfl), List.forall_mem_cons.mpr ⟨zm_f0 (RX11, TX11, 38) rfl (by decide) (zm_t (zm_c6 134 rfl) rfl), List.forall_mem_cons.mpr ⟨zm_f0 (RX11, TX11, 38) rfl (by decide) (zm_t (zm_c6 135 rfl) rfl), List.forall_mem_cons.mpr ⟨zm_f0 (RX11, TX11, 38) rfl (by decide) (zm_t (zm_c6 136 rfl) rfl), List.forall_mem_cons.mpr ⟨zm_f0 (RX11, TX11, 38) rfl (by decide) (zm_t (zm_c6 137 rfl) rfl), List.forall_mem_cons.mpr ⟨zm_f0 (RX11, TX11, 38) rfl (by decide) (zm_t (zm_c6 138 rfl) rfl), List.forall_mem_cons.mpr ⟨zm_f0 (RX11, TX11, 38) rfl (by decide) (zm_t (zm_c6 139 rfl) rfl), List.forall_mem_cons.mpr ⟨zm_f0 (RX11, TX11, 38) rfl (by decide) (zm_t (zm_c6 140 rfl) rfl), List.forall_mem_cons.mpr ⟨zm_f0 (RX11, TX11, 38) rfl (by decide) (zm_t (zm_c6 141 rfl) rfl), List.forall_mem_cons.mpr ⟨zm_f0 (RX11, TX11, 38) rfl (by decide) (zm_t (zm_c6 142 rfl) rfl), List.forall_mem_cons.mpr ⟨zm_f0 (RX11, TX11, 38) rfl (by decide) (zm_t (zm_c6 143 rfl) rfl), List.forall_mem_cons.mpr ⟨zm_f0 (RX11, TX11, 38) rfl (by decide) (zm_t (zm_c6 144 rfl) rfl), List.forall_mem_cons.mpr ⟨zm_f0 (RX11, TX11, 38) rfl (by decide) (zm_t (zm_c6 145 rfl) rfl), List.forall_mem_cons.mpr ⟨zm_f0 (RX11, TX11, 38) rfl (by decide) (zm_t (zm_c6 146 rfl) rfl), List.forall_mem_cons.mpr ⟨zm_f0 (RX11, TX11, 38) rfl (by decide) (zm_t (zm_c6 147 rfl) rfl), List.forall_mem_cons.mpr ⟨zm_f0 (RX11, TX11, 38) rfl (by decide) (zm_t (zm_c6 148 rfl) rfl), List.forall_mem_cons.mpr ⟨zm_f0 (RX11, TX11, 38) rfl (by decide) (zm_t (zm_c6 149 rfl) rfl), List.forall_mem_cons.mpr ⟨zm_f0 (RX11, TX11, 38) rfl (by decide) (zm_t (zm_c6 150 rfl) rfl), List.forall_mem_cons.mpr ⟨zm_f0 (RX11, TX11, 38) rfl (by decide) (zm_t (zm_c6 151 rfl) rfl), List.forall_mem_cons.mpr ⟨zm_f0 (RX11, TX11, 38) rfl (by decide) (zm_t (zm_c6 152 rfl) rfl), List.forall_mem_cons.mpr ⟨zm_f0 (RX11, TX11, 38) rfl (by decide) (zm_t (zm_c6 153 rfl) rfl), List.forall_mem_cons.mpr ⟨zm_f0 (RX11, TX11, 38) rfl (by decide) (zm_t (zm_c6 154 rfl) rfl), List.forall_mem_cons.mpr ⟨zm_f0 (RX11, TX11, 38) rfl (by decide) (zm_t (zm_c6 155 rfl) rfl), List.forall_mem_cons.mpr ⟨zm_f0 (RX11, TX11, 38) rfl (by decide) (zm_t (zm_c6 156 rfl) rfl), List.forall_mem_cons.mpr ⟨zm_f0 (RX11, TX11, 38) rfl (by decide) (zm_t (zm_c6 157 rfl) rfl), List.forall_mem_cons.mpr ⟨zm_f0 (RX11, TX11, 38) rfl (by decide) (zm_t (zm_c6 158 rfl) rfl), List.forall_mem_cons.mpr ⟨zm_f0 (RX11, TX11, 38) rfl (by decide) (zm_t (zm_c6 159 rfl) rfl), List.forall_mem_cons.mpr ⟨zm_f0 (RX11, TX11, 38) rfl (by decide) (zm_t (zm_c6 160 rfl) rfl), List.forall_mem_cons.mpr ⟨zm_f0 (RX11, TX11, 38) rfl (by decide) (zm_t (zm_c6 161 rfl) rfl), List.forall_mem_cons.mpr ⟨zm_f0 (RX11, TX11, 38) rfl (by decide) (zm_t (zm_c6 162 rfl) rfl), List.forall_mem_cons.mpr ⟨zm_f0 (RX11, TX11, 38) rfl (by decide) (zm_t (zm_c6 163 rfl) rfl), List.forall_mem_nil _⟩⟩⟩⟩⟩⟩⟩⟩⟩⟩⟩⟩⟩⟩⟩⟩⟩⟩⟩⟩⟩⟩⟩⟩⟩⟩⟩⟩⟩⟩⟩⟩⟩⟩⟩⟩⟩⟩
def zm_fk_12 : List (Nat × Nat × Nat) := []
set_option maxRecDepth 20000 in
theorem zm_fo_12 : ∀ e ∈ zm_fk_12, zm_okF RL e := List.forall_mem_nil _
def zm_fkT : List (List (Nat × Nat × Nat)) := [zm_fk_0, zm_fk_1, zm_fk_2, zm_fk_3, zm_fk_4, zm_fk_5, zm_fk_6, zm_fk_7, zm_fk_8, zm_fk_9, zm_fk_10, zm_fk_11, zm_fk_12]
def zm_okC (own : String) (e : Nat × Nat) : Prop := ∃ q : vw_C, vwCl[e.2]? = some q ∧ Cond.classLink own e.1 q.1 ∈ zm_TW ∧ Cond.instantiable q.1 q.2.2 ∈ zm_TW ∧ Cond.initialized q.1 ∈ zm_TW
theorem zm_n0 {own : String} {i c : Nat} (q : vw_C) (h0 : vwCl[c]? = some q) (h1 : Cond.classLink own i q.1 ∈ zm_TW) (h2 : Cond.instantiable q.1 q.2.2 ∈ zm_TW) (h3 : Cond.initialized q.1 ∈ zm_TW) : zm_okC own (i, c) := ⟨q, h0, h1, h2, h3⟩
def zm_ck_0 : List (Nat × Nat) := []
theorem zm_co_0 : ∀ e ∈ zm_ck_0, zm_okC RX0 e := List.forall_mem_nil _
def zm_ck_1 : List (Nat × Nat) := [(9, 0)]
theorem zm_co_1 : ∀ e ∈ zm_ck_1, zm_okC RX1 e := List.forall_mem_cons.mpr ⟨zm_n0 (RX0, TX0, 1) rfl (zm_t (zm_c2 57 rfl) rfl) (zm_t (zm_c1 142 rfl) rfl) (zm_t (zm_c1 6 rfl) rfl), List.forall_mem_nil _⟩
def zm_ck_2 : List (Nat × Nat) := []
theorem zm_co_2 : ∀ e ∈ zm_ck_2, zm_okC RX2 e := List.forall_mem_nil _
def zm_ck_3 : List (Nat × Nat) := []
theorem zm_co_3 : ∀ e ∈ zm_ck_3, zm_okC RX3 e := List.forall_mem_nil _
def zm_ck_4 : List (Nat × Nat) := [(9, 0)]
theorem zm_co_4 : ∀ e ∈ zm_ck_4, zm_okC RX4 e := List.forall_mem_cons.mpr ⟨zm_n0 (RX0, TX0, 1) rfl (zm_t (zm_c1 141 rfl) rfl) (zm_t (zm_c1 142 rfl) rfl) (zm_t (zm_c1 6 rfl) rfl), List.forall_mem_nil _⟩
def zm_ck_5 : List (Nat × Nat) := []
theorem zm_co_5 : ∀ e ∈ zm_ck_5, zm_okC RX5 e := List.forall_mem_nil _
def zm_ck_6 : List (Nat × Nat) := []
theorem zm_co_6 : ∀ e ∈ zm_ck_6, zm_okC RX6 e := List.forall_mem_nil _
def zm_ck_7 : List (Nat × Nat) := [(9, 9)]
theorem zm_co_7 : ∀ e ∈ zm_ck_7, zm_okC RX7 e := List.forall_mem_cons.mpr ⟨zm_n0 (RX9, TX9, 8) rfl (zm_t (zm_c1 37 rfl) rfl) (zm_t (zm_c1 38 rfl) rfl) (zm_t (zm_c1 3 rfl) rfl), List.forall_mem_nil _⟩
def zm_ck_8 : List (Nat × Nat) := []
theorem zm_co_8 : ∀ e ∈ zm_ck_8, zm_okC RX8 e := List.forall_mem_nil _
def zm_ck_9 : List (Nat × Nat) := []
theorem zm_co_9 : ∀ e ∈ zm_ck_9, zm_okC RX9 e := List.forall_mem_nil _
def zm_ck_10 : List (Nat × Nat) := [(7, 7), (21, 5), (28, 4), (35, 6), (42, 2), (49, 8), (56, 1), (63, 3)]
theorem zm_co_10 : ∀ e ∈ zm_ck_10, zm_okC RX10 e := List.forall_mem_cons.mpr ⟨zm_n0 (RX7, TX7, 10) rfl (zm_t (zm_c1 31 rfl) rfl) (zm_t (zm_c1 32 rfl) rfl) (zm_t (zm_c1 2 rfl) rfl), List.forall_mem_cons.mpr ⟨zm_n0 (RX5, TX5, 5) rfl (zm_t (zm_c1 110 rfl) rfl) (zm_t (zm_c1 111 rfl) rfl) (zm_t (zm_c1 4 rfl) rfl), List.forall_mem_cons.mpr ⟨zm_n0 (RX4, TX4, 7) rfl (zm_t (zm_c1 135 rfl) rfl) (zm_t (zm_c1 136 rfl) rfl) (zm_t (zm_c1 5 rfl) rfl), List.forall_mem_cons.mpr ⟨zm_n0 (RX6, TX6, 12) rfl (zm_t (zm_c1 178 rfl) rfl) (zm_t (zm_c1 179 rfl) rfl) (zm_t (zm_c1 7 rfl) rfl), List.forall_mem_cons.mpr ⟨zm_n0 (RX2, TX2, 11) rfl (zm_t (zm_c1 227 rfl) rfl) (zm_t (zm_c1 228 rfl) rfl) (zm_t (zm_c1 8 rfl) rfl), List.forall_mem_cons.mpr ⟨zm_n0 (RX8, TX8, 4) rfl (zm_t (zm_c2 32 rfl) rfl) (zm_t (zm_c2 33 rfl) rfl) (zm_t (zm_c1 9 rfl) rfl), List.forall_mem_cons.mpr ⟨zm_n0 (RX1, TX1, 7) rfl (zm_t (zm_c2 51 rfl) rfl) (zm_t (zm_c2 52 rfl) rfl) (zm_t (zm_c1 10 rfl) rfl), List.forall_mem_cons.mpr ⟨zm_n0 (RX3, TX3, 16) rfl (zm_t (zm_c2 85 rfl) rfl) (zm_t (zm_c2 86 rfl) rfl) (zm_t (zm_c1 11 rfl) rfl), List.forall_mem_nil _⟩⟩⟩⟩⟩⟩⟩⟩
def zm_ck_11 : List (Nat × Nat) := []
theorem zm_co_11 : ∀ e ∈ zm_ck_11, zm_okC RX11 e := List.forall_mem_nil _
def zm_ck_12 : List (Nat × Nat) := [(8, 10), (16, 11)]
theorem zm_co_12 : ∀ e ∈ zm_ck_12, zm_okC RL e := List.forall_mem_cons.mpr ⟨zm_n0 (RX10, TX10, 13) rfl (zm_t (zm_c1 23 rfl) rfl) (zm_t (zm_c1 24 rfl) rfl) (zm_t (zm_c1 1 rfl) rfl), List.forall_mem_cons.mpr ⟨zm_n0 (RX11, TX11, 38) rfl (zm_t (zm_c6 120 rfl) rfl) (zm_t (zm_c6 121 rfl) rfl) (zm_t (zm_c1 12 rfl) rfl), List.forall_mem_nil _⟩⟩
def zm_ckT : List (List (Nat × Nat)) := [zm_ck_0, zm_ck_1, zm_ck_2, zm_ck_3, zm_ck_4, zm_ck_5, zm_ck_6, zm_ck_7, zm_ck_8, zm_ck_9, zm_ck_10, zm_ck_11, zm_ck_12]
def zm_okK (own : String) (e : Nat × Nat × Int) : Prop := (e.2.1 = 0 → Cond.constant own e.1 (Int32.ofInt e.2.2) ∈ zm_TW) ∧ (e.2.1 = 1 → Cond.constantLong own e.1 (Int64.ofInt e.2.2) ∈ zm_TW)
theorem zm_k0 {own : String} {i : Nat} {z : Int} (h : Cond.constant own i (Int32.ofInt z) ∈ zm_TW) : zm_okK own (i, 0, z) := ⟨fun _ => h, fun h => by simp at h⟩
theorem zm_k1 {own : String} {i : Nat} {z : Int} (h : Cond.constantLong own i (Int64.ofInt z) ∈ zm_TW) : zm_okK own (i, 1, z) := ⟨fun h => by simp at h, fun _ => h⟩
def zm_kc_0 : List (Nat × Nat × Int) := []
theorem zm_ko_0 : ∀ e ∈ zm_kc_0, zm_okK RX0 e := List.forall_mem_nil _
def zm_kc_1 : List (Nat × Nat × Int) := [(77, 0, 65537)]
theorem zm_ko_1 : ∀ e ∈ zm_kc_1, zm_okK RX1 e := List.forall_mem_cons.mpr ⟨zm_k0 (zm_t (zm_c5 199 rfl) rfl), List.forall_mem_nil _⟩
def zm_kc_2 : List (Nat × Nat × Int) := []
theorem zm_ko_2 : ∀ e ∈ zm_kc_2, zm_okK RX2 e := List.forall_mem_nil _
def zm_kc_3 : List (Nat × Nat × Int) := [(97, 0, 2147483647)]
theorem zm_ko_3 : ∀ e ∈ zm_kc_3, zm_okK RX3 e := List.forall_mem_cons.mpr ⟨zm_k0 (zm_t (zm_c4 33 rfl) rfl), List.forall_mem_nil _⟩
def zm_kc_4 : List (Nat × Nat × Int) := [(39, 1, 200)]
theorem zm_ko_4 : ∀ e ∈ zm_kc_4, zm_okK RX4 e := List.forall_mem_cons.mpr ⟨zm_k1 (zm_t (zm_c4 177 rfl) rfl), List.forall_mem_nil _⟩
def zm_kc_5 : List (Nat × Nat × Int) := []
theorem zm_ko_5 : ∀ e ∈ zm_kc_5, zm_okK RX5 e := List.forall_mem_nil _
def zm_kc_6 : List (Nat × Nat × Int) := []
theorem zm_ko_6 : ∀ e ∈ zm_kc_6, zm_okK RX6 e := List.forall_mem_nil _
def zm_kc_7 : List (Nat × Nat × Int) := []
theorem zm_ko_7 : ∀ e ∈ zm_kc_7, zm_okK RX7 e := List.forall_mem_nil _
def zm_kc_8 : List (Nat × Nat × Int) := [(65, 0, 2147483647)]
theorem zm_ko_8 : ∀ e ∈ zm_kc_8, zm_okK RX8 e := List.forall_mem_cons.mpr ⟨zm_k0 (zm_t (zm_c5 166 rfl) rfl), List.forall_mem_nil _⟩
def zm_kc_9 : List (Nat × Nat × Int) := []
theorem zm_ko_9 : ∀ e ∈ zm_kc_9, zm_okK RX9 e := List.forall_mem_nil _
def zm_kc_10 : List (Nat × Nat × Int) := [(180, 1, -1), (185, 1, 200), (356, 0, 65536)]
theorem zm_ko_10 : ∀ e ∈ zm_kc_10, zm_okK RX10 e := List.forall_mem_cons.mpr ⟨zm_k1 (zm_t (zm_c4 128 rfl) rfl), List.forall_mem_cons.mpr ⟨zm_k1 (zm_t (zm_c4 141 rfl) rfl), List.forall_mem_cons.mpr ⟨zm_k0 (zm_t (zm_c5 177 rfl) rfl), List.forall_mem_nil _⟩⟩⟩
def zm_kc_11 : List (Nat × Nat × Int) := [(279, 0, 1000000), (351, 1, 200), (449, 0, 65536), (448, 0, 65537)]
theorem zm_ko_11 : ∀ e ∈ zm_kc_11, zm_okK RX11 e := List.forall_mem_cons.mpr ⟨zm_k0 (zm_t (zm_c8 3 rfl) rfl), List.forall_mem_cons.mpr ⟨zm_k1 (zm_t (zm_c8 83 rfl) rfl), List.forall_mem_cons.mpr ⟨zm_k0 (zm_t (zm_c9 26 rfl) rfl), List.forall_mem_cons.mpr ⟨zm_k0 (zm_t (zm_c9 31 rfl) rfl), List.forall_mem_nil _⟩⟩⟩⟩
def zm_kc_12 : List (Nat × Nat × Int) := []
theorem zm_ko_12 : ∀ e ∈ zm_kc_12, zm_okK RL e := List.forall_mem_nil _
def zm_kcT : List (List (Nat × Nat × Int)) := [zm_kc_0, zm_kc_1, zm_kc_2, zm_kc_3, zm_kc_4, zm_kc_5, zm_kc_6, zm_kc_7, zm_kc_8, zm_kc_9, zm_kc_10, zm_kc_11, zm_kc_12]
def zm_ty : List (Nat → FieldType) := [tyX0, tyX1, tyX2, tyX3, tyX4, tyX5, tyX6, tyX7, tyX8, tyX9, tyX10, tyX11]
theorem zm_wo_0 : ∀ w ∈ u_ws RX0 TX0 1, w ∈ zm_TW := List.forall_mem_cons.mpr ⟨(zm_t (zm_c1 148 rfl) rfl), List.forall_mem_nil _⟩
theorem zm_wo_1 : ∀ w ∈ u_ws RX1 TX1 7, w ∈ zm_TW := List.forall_mem_cons.mpr ⟨(zm_t (zm_c2 70 rfl) rfl), List.forall_mem_cons.mpr ⟨(zm_t (zm_c2 72 rfl) rfl), List.forall_mem_cons.mpr ⟨(zm_t (zm_c2 74 rfl) rfl), List.forall_mem_cons.mpr ⟨(zm_t (zm_c2 76 rfl) rfl), List.forall_mem_cons.mpr ⟨(zm_t (zm_c2 78 rfl) rfl), List.forall_mem_cons.mpr ⟨(zm_t (zm_c2 80 rfl) rfl), List.forall_mem_cons.mpr ⟨(zm_t (zm_c2 82 rfl) rfl), List.forall_mem_nil _⟩⟩⟩⟩⟩⟩⟩
theorem zm_wo_2 : ∀ w ∈ u_ws RX2 TX2 11, w ∈ zm_TW := List.forall_mem_cons.mpr ⟨(zm_t (zm_c2 9 rfl) rfl), List.forall_mem_cons.mpr ⟨(zm_t (zm_c2 11 rfl) rfl), List.forall_mem_cons.mpr ⟨(zm_t (zm_c2 13 rfl) rfl), List.forall_mem_cons.mpr ⟨(zm_t (zm_c2 15 rfl) rfl), List.forall_mem_cons.mpr ⟨(zm_t (zm_c2 17 rfl) rfl), List.forall_mem_cons.mpr ⟨(zm_t (zm_c2 19 rfl) rfl), List.forall_mem_cons.mpr ⟨(zm_t (zm_c2 21 rfl) rfl), List.forall_mem_cons.mpr ⟨(zm_t (zm_c2 23 rfl) rfl), List.forall_mem_cons.mpr ⟨(zm_t (zm_c2 25 rfl) rfl), List.forall_mem_cons.mpr ⟨(zm_t (zm_c2 27 rfl) rfl), List.forall_mem_cons.mpr ⟨(zm_t (zm_c2 29 rfl) rfl), List.forall_mem_nil _⟩⟩⟩⟩⟩⟩⟩⟩⟩⟩⟩
theorem zm_wo_3 : ∀ w ∈ u_ws RX3 TX3 16, w ∈ zm_TW := List.forall_mem_cons.mpr ⟨(zm_t (zm_c2 158 rfl) rfl), List.forall_mem_cons.mpr ⟨(zm_t (zm_c2 160 rfl) rfl), List.forall_mem_cons.mpr ⟨(zm_t (zm_c2 162 rfl) rfl), List.forall_mem_cons.mpr ⟨(zm_t (zm_c2 164 rfl) rfl), List.forall_mem_cons.mpr ⟨(zm_t (zm_c2 166 rfl) rfl), List.forall_mem_cons.mpr ⟨(zm_t (zm_c2 168 rfl) rfl), List.forall_mem_cons.mpr ⟨(zm_t (zm_c2 170 rfl) rfl), List.forall_mem_cons.mpr ⟨(zm_t (zm_c2 172 rfl) rfl), List.forall_mem_cons.mpr ⟨(zm_t (zm_c2 174 rfl) rfl), List.forall_mem_cons.mpr ⟨(zm_t (zm_c2 176 rfl) rfl), List.forall_mem_cons.mpr ⟨(zm_t (zm_c2 178 rfl) rfl), List.forall_mem_cons.mpr ⟨(zm_t (zm_c2 180 rfl) rfl), List.forall_mem_cons.mpr ⟨(zm_t (zm_c2 182 rfl) rfl), List.forall_mem_cons.mpr ⟨(zm_t (zm_c2 184 rfl) rfl), List.forall_mem_cons.mpr ⟨(zm_t (zm_c2 186 rfl) rfl), List.forall_mem_cons.mpr ⟨(zm_t (zm_c2 188 rfl) rfl), List.forall_mem_nil _⟩⟩⟩⟩⟩⟩⟩⟩⟩⟩⟩⟩⟩⟩⟩⟩
theorem zm_wo_4 : ∀ w ∈ u_ws RX4 TX4 7, w ∈ zm_TW := List.forall_mem_cons.mpr ⟨(zm_t (zm_c1 163 rfl) rfl), List.forall_mem_cons.mpr ⟨(zm_t (zm_c1 165 rfl) rfl), List.forall_mem_cons.mpr ⟨(zm_t (zm_c1 167 rfl) rfl), List.forall_mem_cons.mpr ⟨(zm_t (zm_c1 169 rfl) rfl), List.forall_mem_cons.mpr ⟨(zm_t (zm_c1 171 rfl) rfl), List.forall_mem_cons.mpr ⟨(zm_t (zm_c1 173 rfl) rfl), List.forall_mem_cons.mpr ⟨(zm_t (zm_c1 175 rfl) rfl), List.forall_mem_nil _⟩⟩⟩⟩⟩⟩⟩
theorem zm_wo_5 : ∀ w ∈ u_ws RX5 TX5 5, w ∈ zm_TW := List.forall_mem_cons.mpr ⟨(zm_t (zm_c1 123 rfl) rfl), List.forall_mem_cons.mpr ⟨(zm_t (zm_c1 125 rfl) rfl), List.forall_mem_cons.mpr ⟨(zm_t (zm_c1 127 rfl) rfl), List.forall_mem_cons.mpr ⟨(zm_t (zm_c1 129 rfl) rfl), List.forall_mem_cons.mpr ⟨(zm_t (zm_c1 131 rfl) rfl), List.forall_mem_nil _⟩⟩⟩⟩⟩
theorem zm_wo_6 : ∀ w ∈ u_ws RX6 TX6 12, w ∈ zm_TW := List.forall_mem_cons.mpr ⟨(zm_t (zm_c1 202 rfl) rfl), List.forall_mem_cons.mpr ⟨(zm_t (zm_c1 204 rfl) rfl), List.forall_mem_cons.mpr ⟨(zm_t (zm_c1 206 rfl) rfl), List.forall_mem_cons.mpr ⟨(zm_t (zm_c1 208 rfl) rfl), List.forall_mem_cons.mpr ⟨(zm_t (zm_c1 210 rfl) rfl), List.forall_mem_cons.mpr ⟨(zm_t (zm_c1 212 rfl) rfl), List.forall_mem_cons.mpr ⟨(zm_t (zm_c1 214 rfl) rfl), List.forall_mem_cons.mpr ⟨(zm_t (zm_c1 216 rfl) rfl), List.forall_mem_cons.mpr ⟨(zm_t (zm_c1 218 rfl) rfl), List.forall_mem_cons.mpr ⟨(zm_t (zm_c1 220 rfl) rfl), List.forall_mem_cons.mpr ⟨(zm_t (zm_c1 222 rfl) rfl), List.forall_mem_cons.mpr ⟨(zm_t (zm_c1 224 rfl) rfl), List.forall_mem_nil _⟩⟩⟩⟩⟩⟩⟩⟩⟩⟩⟩⟩
theorem zm_wo_7 : ∀ w ∈ u_ws RX7 TX7 10, w ∈ zm_TW := List.forall_mem_cons.mpr ⟨(zm_t (zm_c1 87 rfl) rfl), List.forall_mem_cons.mpr ⟨(zm_t (zm_c1 89 rfl) rfl), List.forall_mem_cons.mpr ⟨(zm_t (zm_c1 91 rfl) rfl), List.forall_mem_cons.mpr ⟨(zm_t (zm_c1 93 rfl) rfl), List.forall_mem_cons.mpr ⟨(zm_t (zm_c1 95 rfl) rfl), List.forall_mem_cons.mpr ⟨(zm_t (zm_c1 97 rfl) rfl), List.forall_mem_cons.mpr ⟨(zm_t (zm_c1 99 rfl) rfl), List.forall_mem_cons.mpr ⟨(zm_t (zm_c1 101 rfl) rfl), List.forall_mem_cons.mpr ⟨(zm_t (zm_c1 103 rfl) rfl), List.forall_mem_cons.mpr ⟨(zm_t (zm_c1 105 rfl) rfl), List.forall_mem_nil _⟩⟩⟩⟩⟩⟩⟩⟩⟩⟩
theorem zm_wo_8 : ∀ w ∈ u_ws RX8 TX8 4, w ∈ zm_TW := List.forall_mem_cons.mpr ⟨(zm_t (zm_c2 42 rfl) rfl), List.forall_mem_cons.mpr ⟨(zm_t (zm_c2 44 rfl) rfl), List.forall_mem_cons.mpr ⟨(zm_t (zm_c2 46 rfl) rfl), List.forall_mem_cons.mpr ⟨(zm_t (zm_c2 48 rfl) rfl), List.forall_mem_nil _⟩⟩⟩⟩
theorem zm_wo_9 : ∀ w ∈ u_ws RX9 TX9 8, w ∈ zm_TW := List.forall_mem_cons.mpr ⟨(zm_t (zm_c1 56 rfl) rfl), List.forall_mem_cons.mpr ⟨(zm_t (zm_c1 58 rfl) rfl), List.forall_mem_cons.mpr ⟨(zm_t (zm_c1 60 rfl) rfl), List.forall_mem_cons.mpr ⟨(zm_t (zm_c1 62 rfl) rfl), List.forall_mem_cons.mpr ⟨(zm_t (zm_c1 64 rfl) rfl), List.forall_mem_cons.mpr ⟨(zm_t (zm_c1 66 rfl) rfl), List.forall_mem_cons.mpr ⟨(zm_t (zm_c1 68 rfl) rfl), List.forall_mem_cons.mpr ⟨(zm_t (zm_c1 70 rfl) rfl), List.forall_mem_nil _⟩⟩⟩⟩⟩⟩⟩⟩
theorem zm_wo_10 : ∀ w ∈ u_ws RX10 TX10 13, w ∈ zm_TW := List.forall_mem_cons.mpr ⟨(zm_t (zm_c2 204 rfl) rfl), List.forall_mem_cons.mpr ⟨(zm_t (zm_c2 206 rfl) rfl), List.forall_mem_cons.mpr ⟨(zm_t (zm_c2 208 rfl) rfl), List.forall_mem_cons.mpr ⟨(zm_t (zm_c2 210 rfl) rfl), List.forall_mem_cons.mpr ⟨(zm_t (zm_c2 212 rfl) rfl), List.forall_mem_cons.mpr ⟨(zm_t (zm_c2 214 rfl) rfl), List.forall_mem_cons.mpr ⟨(zm_t (zm_c2 216 rfl) rfl), List.forall_mem_cons.mpr ⟨(zm_t (zm_c2 218 rfl) rfl), List.forall_mem_cons.mpr ⟨(zm_t (zm_c2 220 rfl) rfl), List.forall_mem_cons.mpr ⟨(zm_t (zm_c2 222 rfl) rfl), List.forall_mem_cons.mpr ⟨(zm_t (zm_c2 224 rfl) rfl), List.forall_mem_cons.mpr ⟨(zm_t (zm_c2 226 rfl) rfl), List.forall_mem_cons.mpr ⟨(zm_t (zm_c2 228 rfl) rfl), List.forall_mem_nil _⟩⟩⟩⟩⟩⟩⟩⟩⟩⟩⟩⟩⟩
theorem zm_wo_11 : ∀ w ∈ u_ws RX11 TX11 38, w ∈ zm_TW := List.forall_mem_cons.mpr ⟨(zm_t (zm_c6 164 rfl) rfl), List.forall_mem_cons.mpr ⟨(zm_t (zm_c6 166 rfl) rfl), List.forall_mem_cons.mpr ⟨(zm_t (zm_c6 168 rfl) rfl), List.forall_mem_cons.mpr ⟨(zm_t (zm_c6 170 rfl) rfl), List.forall_mem_cons.mpr ⟨(zm_t (zm_c6 172 rfl) rfl), List.forall_mem_cons.mpr ⟨(zm_t (zm_c6 174 rfl) rfl), List.forall_mem_cons.mpr ⟨(zm_t (zm_c6 176 rfl) rfl), List.forall_mem_cons.mpr ⟨(zm_t (zm_c6 178 rfl) rfl), List.forall_mem_cons.mpr ⟨(zm_t (zm_c6 180 rfl) rfl), List.forall_mem_cons.mpr ⟨(zm_t (zm_c6 182 rfl) rfl), List.forall_mem_cons.mpr ⟨(zm_t (zm_c6 184 rfl) rfl), List.forall_mem_cons.mpr ⟨(zm_t (zm_c6 186 rfl) rfl), List.forall_mem_cons.mpr ⟨(zm_t (zm_c6 188 rfl) rfl), List.forall_mem_cons.mpr ⟨(zm_t (zm_c6 190 rfl) rfl), List.forall_mem_cons.mpr ⟨(zm_t (zm_c6 192 rfl) rfl), List.forall_mem_cons.mpr ⟨(zm_t (zm_c6 194 rfl) rfl), List.forall_mem_cons.mpr ⟨(zm_t (zm_c6 196 rfl) rfl), List.forall_mem_cons.mpr ⟨(zm_t (zm_c6 198 rfl) rfl), List.forall_mem_cons.mpr ⟨(zm_t (zm_c6 200 rfl) rfl), List.forall_mem_cons.mpr ⟨(zm_t (zm_c6 202 rfl) rfl), List.forall_mem_cons.mpr ⟨(zm_t (zm_c6 204 rfl) rfl), List.forall_mem_cons.mpr ⟨(zm_t (zm_c6 206 rfl) rfl), List.forall_mem_cons.mpr ⟨(zm_t (zm_c6 208 rfl) rfl), List.forall_mem_cons.mpr ⟨(zm_t (zm_c6 210 rfl) rfl), List.forall_mem_cons.mpr ⟨(zm_t (zm_c6 212 rfl) rfl), List.forall_mem_cons.mpr ⟨(zm_t (zm_c6 214 rfl) rfl), List.forall_mem_cons.mpr ⟨(zm_t (zm_c6 216 rfl) rfl), List.forall_mem_cons.mpr ⟨(zm_t (zm_c6 218 rfl) rfl), List.forall_mem_cons.mpr ⟨(zm_t (zm_c6 220 rfl) rfl), List.forall_mem_cons.mpr ⟨(zm_t (zm_c6 222 rfl) rfl), List.forall_mem_cons.mpr ⟨(zm_t (zm_c6 224 rfl) rfl), List.forall_mem_cons.mpr ⟨(zm_t (zm_c6 226 rfl) rfl), List.forall_mem_cons.mpr ⟨(zm_t (zm_c6 228 rfl) rfl), List.forall_mem_cons.mpr ⟨(zm_t (zm_c6 230 rfl) rfl), List.forall_mem_cons.mpr ⟨(zm_t (zm_c6 232 rfl) rfl), List.forall_mem_cons.mpr ⟨(zm_t (zm_c6 234 rfl) rfl), List.forall_mem_cons.mpr ⟨(zm_t (zm_c6 236 rfl) rfl), List.forall_mem_cons.mpr ⟨(zm_t (zm_c6 238 rfl) rfl), List.forall_mem_nil _⟩⟩⟩⟩⟩⟩⟩⟩⟩⟩⟩⟩⟩⟩⟩⟩⟩⟩⟩⟩⟩⟩⟩⟩⟩⟩⟩⟩⟩⟩⟩⟩⟩⟩⟩⟩⟩⟩
def zm_strs : List String := ["hall", "air", "fog", "speaker", "member", "lamp", "flight", "long", "rows", "nose", "left", "right", "at", "plain", "stable", "loop", "flat", "seat", "far", "sharp", "errs", "lands"]
def zm_sk_0 : List (Nat × Nat) := []
def zm_sk_1 : List (Nat × Nat) := []
def zm_sk_2 : List (Nat × Nat) := []
def zm_sk_3 : List (Nat × Nat) := []
def zm_sk_4 : List (Nat × Nat) := []
def zm_sk_5 : List (Nat × Nat) := []
def zm_sk_6 : List (Nat × Nat) := []
def zm_sk_7 : List (Nat × Nat) := [(110, 0), (116, 1), (118, 2), (120, 3), (122, 4), (124, 5), (126, 6), (143, 7), (151, 8), (155, 9), (162, 10), (164, 11), (173, 12), (222, 13), (224, 14), (226, 15), (228, 16), (180, 17), (182, 18), (184, 19), (188, 20), (204, 21)]
def zm_sk_8 : List (Nat × Nat) := []
def zm_sk_9 : List (Nat × Nat) := []
def zm_sk_10 : List (Nat × Nat) := []
def zm_sk_11 : List (Nat × Nat) := [(132, 0), (211, 7), (217, 8), (219, 9), (134, 1), (224, 10), (226, 11), (136, 2), (138, 3), (140, 4), (142, 5), (144, 6), (235, 12), (239, 13), (241, 14), (243, 15), (245, 16), (247, 17), (249, 18), (251, 19), (253, 20), (255, 21)]
def zm_sk_12 : List (Nat × Nat) := []
def zm_skT : List (List (Nat × Nat)) := [zm_sk_0, zm_sk_1, zm_sk_2, zm_sk_3, zm_sk_4, zm_sk_5, zm_sk_6, zm_sk_7, zm_sk_8, zm_sk_9, zm_sk_10, zm_sk_11, zm_sk_12]

/-! the methods, the cells, what the tables say of them -/
theorem cf_0 : CF 0 RX0 TX0 7 tyX0 := by
  refine ⟨rfl, fun w hw => ?_, tyX0_ok, nmX0⟩
  obtain ⟨k, hk, rfl⟩ := List.mem_map.mp hw
  have hk := List.mem_range.mp hk
  match k, hk with
  | 0, _ => exact jw_63
  | 1, _ => exact jw_65
  | 2, _ => exact jw_67
  | 3, _ => exact jw_69
  | 4, _ => exact jw_71
  | 5, _ => exact jw_73
  | 6, _ => exact jw_75
  | k + 7, hk => exact absurd hk (by omega)
theorem cf_1 : CF 1 RX1 TX1 3 tyX1 := by
  refine ⟨rfl, fun w hw => ?_, tyX1_ok, nmX1⟩
  obtain ⟨k, hk, rfl⟩ := List.mem_map.mp hw
  have hk := List.mem_range.mp hk
  match k, hk with
  | 0, _ => exact jw_92
  | 1, _ => exact jw_94
  | 2, _ => exact jw_96
  | k + 3, hk => exact absurd hk (by omega)
theorem cf_2 : CF 2 RX2 TX2 6 tyX2 := by
  refine ⟨rfl, fun w hw => ?_, tyX2_ok, nmX2⟩
  obtain ⟨k, hk, rfl⟩ := List.mem_map.mp hw
  have hk := List.mem_range.mp hk
  match k, hk with
  | 0, _ => exact jw_148
  | 1, _ => exact jw_150
  | 2, _ => exact jw_152
  | 3, _ => exact jw_154
  | 4, _ => exact jw_156
  | 5, _ => exact jw_158
  | k + 6, hk => exact absurd hk (by omega)
theorem cf_3 : CF 3 RX3 TX3 11 tyX3 := by
  refine ⟨rfl, fun w hw => ?_, tyX3_ok, nmX3⟩
  obtain ⟨k, hk, rfl⟩ := List.mem_map.mp hw
  have hk := List.mem_range.mp hk
  match k, hk with
  | 0, _ => exact jw_192
  | 1, _ => exact jw_194
  | 2, _ => exact jw_196
  | 3, _ => exact jw_198
  | 4, _ => exact jw_200
  | 5, _ => exact jw_202
  | 6, _ => exact jw_204
  | 7, _ => exact jw_206
  | 8, _ => exact jw_208
  | 9, _ => exact jw_210
  | 10, _ => exact jw_212
  | k + 11, hk => exact absurd hk (by omega)
theorem cf_4 : CF 4 RX4 TX4 2 tyX4 := by
  refine ⟨rfl, fun w hw => ?_, tyX4_ok, nmX4⟩
  obtain ⟨k, hk, rfl⟩ := List.mem_map.mp hw
  have hk := List.mem_range.mp hk
  match k, hk with
  | 0, _ => exact jw_227
  | 1, _ => exact jw_229
  | k + 2, hk => exact absurd hk (by omega)
theorem cf_5 : CF 5 RX5 TX5 4 tyX5 := by
  refine ⟨rfl, fun w hw => ?_, tyX5_ok, nmX5⟩
  obtain ⟨k, hk, rfl⟩ := List.mem_map.mp hw
  have hk := List.mem_range.mp hk
  match k, hk with
  | 0, _ => exact jw_116
  | 1, _ => exact jw_118
  | 2, _ => exact jw_120
  | 3, _ => exact jw_122
  | k + 4, hk => exact absurd hk (by omega)
theorem cf_6 : CF 6 RX6 TX6 2 tyX6 := by
  refine ⟨rfl, fun w hw => ?_, tyX6_ok, nmX6⟩
  obtain ⟨k, hk, rfl⟩ := List.mem_map.mp hw
  have hk := List.mem_range.mp hk
  match k, hk with
  | 0, _ => exact jw_241
  | 1, _ => exact jw_243
  | k + 2, hk => exact absurd hk (by omega)
theorem cf_7 : CF 7 RX7 TX7 4 tyX7 := by
  refine ⟨rfl, fun w hw => ?_, tyX7_ok, nmX7⟩
  obtain ⟨k, hk, rfl⟩ := List.mem_map.mp hw
  have hk := List.mem_range.mp hk
  match k, hk with
  | 0, _ => exact jw_250
  | 1, _ => exact jw_252
  | 2, _ => exact jw_254
  | 3, _ => exact jw_256
  | k + 4, hk => exact absurd hk (by omega)
theorem cf_8 : CF 8 RX8 TX8 14 tyX8 := by
  refine ⟨rfl, fun w hw => ?_, tyX8_ok, nmX8⟩
  obtain ⟨k, hk, rfl⟩ := List.mem_map.mp hw
  have hk := List.mem_range.mp hk
  match k, hk with
  | 0, _ => exact jw_998
  | 1, _ => exact jw_1000
  | 2, _ => exact jw_1002
  | 3, _ => exact jw_1004
  | 4, _ => exact jw_1006
  | 5, _ => exact jw_1008
  | 6, _ => exact jw_1010
  | 7, _ => exact jw_1012
  | 8, _ => exact jw_1014
  | 9, _ => exact jw_1016
  | 10, _ => exact jw_1018
  | 11, _ => exact jw_1020
  | 12, _ => exact jw_1022
  | 13, _ => exact jw_1024
  | k + 14, hk => exact absurd hk (by omega)
abbrev iX0_init : MI := (yX0_init, cX0_init, 1, none, 1, 23)
theorem kI_X0_init : KI iX0_init 0 := ⟨jw_40, jw_3, by decide, by decide, by decide +kernel⟩
theorem kC_X0_init : KC iX0_init 0 := ⟨kI_X0_init, rfl, jw_39⟩
abbrev iX0_become : MI := (yX0_become, cX0_become, 2, none, 2, 81)
theorem kI_X0_become : KI iX0_become 1 := ⟨jw_588, jw_3, by decide, by decide, by decide +kernel⟩
theorem kV_X0_become : KV iX0_become 1 := ⟨kI_X0_become, jw_586, jw_587⟩
abbrev iX0_isOne : MI := (yX0_isOne, cX0_isOne, 2, some .boolean, 1, 20)
theorem kI_X0_isOne : KI iX0_isOne 1 := ⟨jw_299, jw_3, by decide, by decide, by decide +kernel⟩
theorem kV_X0_isOne : KV iX0_isOne 1 := ⟨kI_X0_isOne, jw_297, jw_298⟩
abbrev iX0_bitOf : MI := (yX0_bitOf, cX0_bitOf, 2, some .int, 2, 41)
theorem kI_X0_bitOf : KI iX0_bitOf 1 := ⟨jw_484, jw_3, by decide, by decide, by decide +kernel⟩
theorem kV_X0_bitOf : KV iX0_bitOf 1 := ⟨kI_X0_bitOf, jw_482, jw_483⟩
abbrev iX0_putBit : MI := (yX0_putBit, cX0_putBit, 3, none, 1, 20)
theorem kI_X0_putBit : KI iX0_putBit 2 := ⟨jw_633, jw_3, by decide, by decide, by decide +kernel⟩
theorem kV_X0_putBit : KV iX0_putBit 2 := ⟨kI_X0_putBit, jw_631, jw_632⟩
abbrev iX0_isLeased : MI := (yX0_isLeased, cX0_isLeased, 2, some .boolean, 0, 0)
theorem kI_X0_isLeased : KI iX0_isLeased 1 := ⟨jw_311, jw_3, by decide, by decide, by decide +kernel⟩
theorem kV_X0_isLeased : KV iX0_isLeased 1 := ⟨kI_X0_isLeased, jw_309, jw_310⟩
abbrev iX0_isLeasedTo : MI := (yX0_isLeasedTo, cX0_isLeasedTo, 3, some .boolean, 2, 42)
theorem kI_X0_isLeasedTo : KI iX0_isLeasedTo 2 := ⟨jw_883, jw_3, by decide, by decide, by decide +kernel⟩
theorem kV_X0_isLeasedTo : KV iX0_isLeasedTo 2 := ⟨kI_X0_isLeasedTo, jw_881, jw_882⟩
abbrev iX0_hasPolicy : MI := (yX0_hasPolicy, cX0_hasPolicy, 2, some .boolean, 0, 0)
theorem kI_X0_hasPolicy : KI iX0_hasPolicy 1 := ⟨jw_438, jw_3, by decide, by decide, by decide +kernel⟩
theorem kV_X0_hasPolicy : KV iX0_hasPolicy 1 := ⟨kI_X0_hasPolicy, jw_436, jw_437⟩
abbrev iX0_endPolicy : MI := (yX0_endPolicy, cX0_endPolicy, 2, none, 0, 0)
theorem kI_X0_endPolicy : KI iX0_endPolicy 1 := ⟨jw_640, jw_3, by decide, by decide, by decide +kernel⟩
theorem kV_X0_endPolicy : KV iX0_endPolicy 1 := ⟨kI_X0_endPolicy, jw_638, jw_639⟩
abbrev iX0_endLease : MI := (yX0_endLease, cX0_endLease, 2, none, 1, 21)
theorem kI_X0_endLease : KI iX0_endLease 1 := ⟨jw_679, jw_3, by decide, by decide, by decide +kernel⟩
theorem kV_X0_endLease : KV iX0_endLease 1 := ⟨kI_X0_endLease, jw_677, jw_678⟩
abbrev iX0_leasesOf : MI := (yX0_leasesOf, cX0_leasesOf, 5, some .long, 1, 20)
theorem kI_X0_leasesOf : KI iX0_leasesOf 1 := ⟨jw_425, jw_3, by decide, by decide, by decide +kernel⟩
theorem kV_X0_leasesOf : KV iX0_leasesOf 1 := ⟨kI_X0_leasesOf, jw_423, jw_424⟩
abbrev iX0_insured : MI := (yX0_insured, cX0_insured, 4, some .long, 1, 21)
theorem kI_X0_insured : KI iX0_insured 0 := ⟨jw_434, jw_3, by decide, by decide, by decide +kernel⟩
theorem kV_X0_insured : KV iX0_insured 0 := ⟨kI_X0_insured, jw_432, jw_433⟩
abbrev iX0_leasedTo : MI := (yX0_leasedTo, cX0_leasedTo, 2, some .int, 2, 44)
theorem kI_X0_leasedTo : KI iX0_leasedTo 1 := ⟨jw_421, jw_3, by decide, by decide, by decide +kernel⟩
theorem kV_X0_leasedTo : KV iX0_leasedTo 1 := ⟨kI_X0_leasedTo, jw_419, jw_420⟩
abbrev iX0_insuredOf : MI := (yX0_insuredOf, cX0_insuredOf, 2, some .int, 2, 44)
theorem kI_X0_insuredOf : KI iX0_insuredOf 1 := ⟨jw_516, jw_3, by decide, by decide, by decide +kernel⟩
theorem kV_X0_insuredOf : KV iX0_insuredOf 1 := ⟨kI_X0_insuredOf, jw_514, jw_515⟩
abbrev iX0_leasedInAll : MI := (yX0_leasedInAll, cX0_leasedInAll, 1, some .int, 3, 65)
theorem kI_X0_leasedInAll : KI iX0_leasedInAll 0 := ⟨jw_417, jw_3, by decide, by decide, by decide +kernel⟩
theorem kV_X0_leasedInAll : KV iX0_leasedInAll 0 := ⟨kI_X0_leasedInAll, jw_415, jw_416⟩
abbrev iX0_insuredInAll : MI := (yX0_insuredInAll, cX0_insuredInAll, 1, some .int, 2, 44)
theorem kI_X0_insuredInAll : KI iX0_insuredInAll 0 := ⟨jw_430, jw_3, by decide, by decide, by decide +kernel⟩
theorem kV_X0_insuredInAll : KV iX0_insuredInAll 0 := ⟨kI_X0_insuredInAll, jw_428, jw_429⟩
abbrev iX0_insuredBy : MI := (yX0_insuredBy, cX0_insuredBy, 4, some .int, 0, 0)
theorem kI_X0_insuredBy : KI iX0_insuredBy 1 := ⟨jw_549, jw_3, by decide, by decide, by decide +kernel⟩
theorem kV_X0_insuredBy : KV iX0_insuredBy 1 := ⟨kI_X0_insuredBy, jw_547, jw_548⟩
abbrev iX0_onesBelow : MI := (yX0_onesBelow, cX0_onesBelow, 5, some .long, 2, 41)
theorem kI_X0_onesBelow : KI iX0_onesBelow 1 := ⟨jw_295, jw_3, by decide, by decide, by decide +kernel⟩
theorem kV_X0_onesBelow : KV iX0_onesBelow 1 := ⟨kI_X0_onesBelow, jw_293, jw_294⟩
abbrev iX0_nextWeakest : MI := (yX0_nextWeakest, cX0_nextWeakest, 4, some .int, 3, 64)
theorem kI_X0_nextWeakest : KI iX0_nextWeakest 1 := ⟨jw_570, jw_3, by decide, by decide, by decide +kernel⟩
theorem kV_X0_nextWeakest : KV iX0_nextWeakest 1 := ⟨kI_X0_nextWeakest, jw_568, jw_569⟩
abbrev iX0_isWeaker : MI := (yX0_isWeaker, cX0_isWeaker, 3, some .boolean, 2, 42)
theorem kI_X0_isWeaker : KI iX0_isWeaker 2 := ⟨jw_574, jw_3, by decide, by decide, by decide +kernel⟩
theorem kV_X0_isWeaker : KV iX0_isWeaker 2 := ⟨kI_X0_isWeaker, jw_573, jp_7⟩
abbrev iX1_init : MI := (yX1_init, cX1_init, 1, none, 1, 23)
theorem kI_X1_init : KI iX1_init 0 := ⟨jw_83, jw_5, by decide, by decide, by decide +kernel⟩
theorem kC_X1_init : KC iX1_init 0 := ⟨kI_X1_init, rfl, jw_82⟩
abbrev iX1_become : MI := (yX1_become, cX1_become, 2, none, 2, 81)
theorem kI_X1_become : KI iX1_become 1 := ⟨jw_593, jw_5, by decide, by decide, by decide +kernel⟩
theorem kV_X1_become : KV iX1_become 1 := ⟨kI_X1_become, jw_591, jw_592⟩
abbrev iX1_isOwed : MI := (yX1_isOwed, cX1_isOwed, 2, some .boolean, 0, 0)
theorem kI_X1_isOwed : KI iX1_isOwed 1 := ⟨jw_315, jw_5, by decide, by decide, by decide +kernel⟩
theorem kV_X1_isOwed : KV iX1_isOwed 1 := ⟨kI_X1_isOwed, jw_313, jw_314⟩
abbrev iX1_dueOf : MI := (yX1_dueOf, cX1_dueOf, 2, some .int, 2, 42)
theorem kI_X1_dueOf : KI iX1_dueOf 1 := ⟨jw_565, jw_5, by decide, by decide, by decide +kernel⟩
theorem kV_X1_dueOf : KV iX1_dueOf 1 := ⟨kI_X1_dueOf, jw_563, jw_564⟩
abbrev iX1_firstCore : MI := (yX1_firstCore, cX1_firstCore, 1, some .int, 0, 0)
theorem kI_X1_firstCore : KI iX1_firstCore 0 := ⟨jw_612, jw_5, by decide, by decide, by decide +kernel⟩
theorem kV_X1_firstCore : KV iX1_firstCore 0 := ⟨kI_X1_firstCore, jw_610, jw_611⟩
abbrev iX1_enter : MI := (yX1_enter, cX1_enter, 4, none, 3, 63)
theorem kI_X1_enter : KI iX1_enter 2 := ⟨jw_825, jw_5, by decide, by decide, by decide +kernel⟩
theorem kV_X1_enter : KV iX1_enter 2 := ⟨kI_X1_enter, jw_823, jw_824⟩
abbrev iX1_strike : MI := (yX1_strike, cX1_strike, 4, none, 1, 21)
theorem kI_X1_strike : KI iX1_strike 1 := ⟨jw_657, jw_5, by decide, by decide, by decide +kernel⟩
theorem kV_X1_strike : KV iX1_strike 1 := ⟨kI_X1_strike, jw_655, jw_656⟩
abbrev iX2_init : MI := (yX2_init, cX2_init, 1, none, 1, 20)
theorem kI_X2_init : KI iX2_init 0 := ⟨jw_129, jw_7, by decide, by decide, by decide +kernel⟩
theorem kC_X2_init : KC iX2_init 0 := ⟨kI_X2_init, rfl, jw_128⟩
abbrev iX2_become : MI := (yX2_become, cX2_become, 2, none, 2, 81)
theorem kI_X2_become : KI iX2_become 1 := ⟨jw_603, jw_7, by decide, by decide, by decide +kernel⟩
theorem kV_X2_become : KV iX2_become 1 := ⟨kI_X2_become, jw_601, jw_602⟩
abbrev iX2_has : MI := (yX2_has, cX2_has, 2, some .boolean, 0, 0)
theorem kI_X2_has : KI iX2_has 1 := ⟨jw_544, jw_7, by decide, by decide, by decide +kernel⟩
theorem kV_X2_has : KV iX2_has 1 := ⟨kI_X2_has, jw_542, jw_543⟩
abbrev iX2_enter : MI := (yX2_enter, cX2_enter, 4, some .int, 0, 0)
theorem kI_X2_enter : KI iX2_enter 3 := ⟨jw_744, jw_7, by decide, by decide, by decide +kernel⟩
theorem kV_X2_enter : KV iX2_enter 3 := ⟨kI_X2_enter, jw_742, jw_743⟩
abbrev iX3_init : MI := (yX3_init, cX3_init, 1, none, 2, 81)
theorem kI_X3_init : KI iX3_init 0 := ⟨jw_34, jw_2, by decide, by decide, by decide +kernel⟩
theorem kC_X3_init : KC iX3_init 0 := ⟨kI_X3_init, rfl, jw_33⟩
abbrev iX3_become : MI := (yX3_become, cX3_become, 3, none, 3, 102)
theorem kI_X3_become : KI iX3_become 1 := ⟨jw_584, jw_2, by decide, by decide, by decide +kernel⟩
theorem kV_X3_become : KV iX3_become 1 := ⟨kI_X3_become, jw_582, jw_583⟩
abbrev iX3_rentFor : MI := (yX3_rentFor, cX3_rentFor, 2, some .int, 0, 0)
theorem kI_X3_rentFor : KI iX3_rentFor 1 := ⟨jw_766, jw_2, by decide, by decide, by decide +kernel⟩
theorem kV_X3_rentFor : KV iX3_rentFor 1 := ⟨kI_X3_rentFor, jw_764, jw_765⟩
abbrev iX3_leaseLeft : MI := (yX3_leaseLeft, cX3_leaseLeft, 2, some .int, 1, 21)
theorem kI_X3_leaseLeft : KI iX3_leaseLeft 1 := ⟨jw_488, jw_2, by decide, by decide, by decide +kernel⟩
theorem kV_X3_leaseLeft : KV iX3_leaseLeft 1 := ⟨kI_X3_leaseLeft, jw_486, jw_487⟩
abbrev iX3_policyLeft : MI := (yX3_policyLeft, cX3_policyLeft, 2, some .int, 1, 21)
theorem kI_X3_policyLeft : KI iX3_policyLeft 1 := ⟨jw_492, jw_2, by decide, by decide, by decide +kernel⟩
theorem kV_X3_policyLeft : KV iX3_policyLeft 1 := ⟨kI_X3_policyLeft, jw_490, jw_491⟩
abbrev iX3_leaseOut : MI := (yX3_leaseOut, cX3_leaseOut, 5, none, 1, 21)
theorem kI_X3_leaseOut : KI iX3_leaseOut 3 := ⟨jw_770, jw_2, by decide, by decide, by decide +kernel⟩
theorem kV_X3_leaseOut : KV iX3_leaseOut 3 := ⟨kI_X3_leaseOut, jw_768, jw_769⟩
abbrev iX3_premiumFor : MI := (yX3_premiumFor, cX3_premiumFor, 6, some .int, 0, 0)
theorem kI_X3_premiumFor : KI iX3_premiumFor 4 := ⟨jw_783, jw_2, by decide, by decide, by decide +kernel⟩
theorem kV_X3_premiumFor : KV iX3_premiumFor 4 := ⟨kI_X3_premiumFor, jw_781, jw_782⟩
abbrev iX3_makePolicy : MI := (yX3_makePolicy, cX3_makePolicy, 6, none, 1, 26)
theorem kI_X3_makePolicy : KI iX3_makePolicy 5 := ⟨jw_787, jw_2, by decide, by decide, by decide +kernel⟩
theorem kV_X3_makePolicy : KV iX3_makePolicy 5 := ⟨kI_X3_makePolicy, jw_785, jw_786⟩
abbrev iX3_replaceCore : MI := (yX3_replaceCore, cX3_replaceCore, 2, none, 2, 42)
theorem kI_X3_replaceCore : KI iX3_replaceCore 1 := ⟨jw_798, jw_2, by decide, by decide, by decide +kernel⟩
theorem kV_X3_replaceCore : KV iX3_replaceCore 1 := ⟨kI_X3_replaceCore, jw_796, jw_797⟩
abbrev iX3_loseBit : MI := (yX3_loseBit, cX3_loseBit, 5, none, 2, 42)
theorem kI_X3_loseBit : KI iX3_loseBit 2 := ⟨jw_629, jw_2, by decide, by decide, by decide +kernel⟩
theorem kV_X3_loseBit : KV iX3_loseBit 2 := ⟨kI_X3_loseBit, jw_627, jw_628⟩
abbrev iX3_enterClaim : MI := (yX3_enterClaim, cX3_enterClaim, 3, none, 0, 0)
theorem kI_X3_enterClaim : KI iX3_enterClaim 2 := ⟨jw_644, jw_2, by decide, by decide, by decide +kernel⟩
theorem kV_X3_enterClaim : KV iX3_enterClaim 2 := ⟨kI_X3_enterClaim, jw_643, jp_9⟩
abbrev iX3_payClaims : MI := (yX3_payClaims, cX3_payClaims, 7, none, 0, 0)
theorem kI_X3_payClaims : KI iX3_payClaims 1 := ⟨jw_648, jw_2, by decide, by decide, by decide +kernel⟩
theorem kV_X3_payClaims : KV iX3_payClaims 1 := ⟨kI_X3_payClaims, jw_647, jp_10⟩
abbrev iX3_waitingOf : MI := (yX3_waitingOf, cX3_waitingOf, 4, some .int, 0, 0)
theorem kI_X3_waitingOf : KI iX3_waitingOf 1 := ⟨jw_520, jw_2, by decide, by decide, by decide +kernel⟩
theorem kV_X3_waitingOf : KV iX3_waitingOf 1 := ⟨kI_X3_waitingOf, jw_518, jw_519⟩
abbrev iX3_waitingOn : MI := (yX3_waitingOn, cX3_waitingOn, 4, some .int, 0, 0)
theorem kI_X3_waitingOn : KI iX3_waitingOn 1 := ⟨jw_553, jw_2, by decide, by decide, by decide +kernel⟩
theorem kV_X3_waitingOn : KV iX3_waitingOn 1 := ⟨kI_X3_waitingOn, jw_551, jw_552⟩
abbrev iX3_canBeRead : MI := (yX3_canBeRead, cX3_canBeRead, 2, some .boolean, 1, 21)
theorem kI_X3_canBeRead : KI iX3_canBeRead 1 := ⟨jw_307, jw_2, by decide, by decide, by decide +kernel⟩
theorem kV_X3_canBeRead : KV iX3_canBeRead 1 := ⟨kI_X3_canBeRead, jw_305, jw_306⟩
abbrev iX3_fragile : MI := (yX3_fragile, cX3_fragile, 1, some .long, 3, 65)
theorem kI_X3_fragile : KI iX3_fragile 0 := ⟨jw_291, jw_2, by decide, by decide, by decide +kernel⟩
theorem kV_X3_fragile : KV iX3_fragile 0 := ⟨kI_X3_fragile, jw_289, jw_290⟩
abbrev iX3_strengthBehindPulse : MI := (yX3_strengthBehindPulse, cX3_strengthBehindPulse, 2, some .int, 1, 21)
theorem kI_X3_strengthBehindPulse : KI iX3_strengthBehindPulse 1 := ⟨jw_621, jw_2, by decide, by decide, by decide +kernel⟩
theorem kV_X3_strengthBehindPulse : KV iX3_strengthBehindPulse 1 := ⟨kI_X3_strengthBehindPulse, jw_619, jw_620⟩
abbrev iX3_heatBehind : MI := (yX3_heatBehind, cX3_heatBehind, 2, some .int, 1, 21)
theorem kI_X3_heatBehind : KI iX3_heatBehind 1 := ⟨jw_652, jw_2, by decide, by decide, by decide +kernel⟩
theorem kV_X3_heatBehind : KV iX3_heatBehind 1 := ⟨kI_X3_heatBehind, jw_650, jw_651⟩
abbrev iX3_pulse : MI := (yX3_pulse, cX3_pulse, 6, none, 4, 85)
theorem kI_X3_pulse : KI iX3_pulse 2 := ⟨jw_617, jw_2, by decide, by decide, by decide +kernel⟩
theorem kV_X3_pulse : KV iX3_pulse 2 := ⟨kI_X3_pulse, jw_616, jp_8⟩
abbrev iX3_holdsOne : MI := (yX3_holdsOne, cX3_holdsOne, 2, some .boolean, 0, 0)
theorem kI_X3_holdsOne : KI iX3_holdsOne 1 := ⟨jw_662, jw_2, by decide, by decide, by decide +kernel⟩
theorem kV_X3_holdsOne : KV iX3_holdsOne 1 := ⟨kI_X3_holdsOne, jw_661, jp_11⟩
abbrev iX3_writeBit : MI := (yX3_writeBit, cX3_writeBit, 3, none, 5, 110)
theorem kI_X3_writeBit : KI iX3_writeBit 2 := ⟨jw_809, jw_2, by decide, by decide, by decide +kernel⟩
theorem kV_X3_writeBit : KV iX3_writeBit 2 := ⟨kI_X3_writeBit, jw_807, jw_808⟩
abbrev iX3_readBit : MI := (yX3_readBit, cX3_readBit, 2, some .int, 5, 110)
theorem kI_X3_readBit : KI iX3_readBit 1 := ⟨jw_820, jw_2, by decide, by decide, by decide +kernel⟩
theorem kV_X3_readBit : KV iX3_readBit 1 := ⟨kI_X3_readBit, jw_818, jw_819⟩
abbrev iX3_writeFirstBack : MI := (yX3_writeFirstBack, cX3_writeFirstBack, 2, some .int, 5, 110)
theorem kI_X3_writeFirstBack : KI iX3_writeFirstBack 0 := ⟨jw_608, jw_2, by decide, by decide, by decide +kernel⟩
theorem kV_X3_writeFirstBack : KV iX3_writeFirstBack 0 := ⟨kI_X3_writeFirstBack, jw_606, jw_607⟩
abbrev iX3_letPass : MI := (yX3_letPass, cX3_letPass, 3, none, 5, 109)
theorem kI_X3_letPass : KI iX3_letPass 1 := ⟨jw_844, jw_2, by decide, by decide, by decide +kernel⟩
theorem kV_X3_letPass : KV iX3_letPass 1 := ⟨kI_X3_letPass, jw_842, jw_843⟩
abbrev iX3_tick : MI := (yX3_tick, cX3_tick, 2, none, 4, 88)
theorem kI_X3_tick : KI iX3_tick 0 := ⟨jw_666, jw_2, by decide, by decide, by decide +kernel⟩
theorem kV_X3_tick : KV iX3_tick 0 := ⟨kI_X3_tick, jw_664, jw_665⟩
abbrev iX3_loseLateBits : MI := (yX3_loseLateBits, cX3_loseLateBits, 3, none, 3, 66)
theorem kI_X3_loseLateBits : KI iX3_loseLateBits 0 := ⟨jw_670, jw_2, by decide, by decide, by decide +kernel⟩
theorem kV_X3_loseLateBits : KV iX3_loseLateBits 0 := ⟨kI_X3_loseLateBits, jw_669, jp_12⟩
abbrev iX3_endLeaseOf : MI := (yX3_endLeaseOf, cX3_endLeaseOf, 2, none, 2, 44)
theorem kI_X3_endLeaseOf : KI iX3_endLeaseOf 1 := ⟨jw_675, jw_2, by decide, by decide, by decide +kernel⟩
theorem kV_X3_endLeaseOf : KV iX3_endLeaseOf 1 := ⟨kI_X3_endLeaseOf, jw_674, jp_13⟩
abbrev iX4_init : MI := (yX4_init, cX4_init, 2, none, 3, 101)
theorem kI_X4_init : KI iX4_init 0 := ⟨jw_219, jw_10, by decide, by decide, by decide +kernel⟩
theorem kC_X4_init : KC iX4_init 0 := ⟨kI_X4_init, rfl, jw_218⟩
abbrev iX4_keep : MI := (yX4_keep, cX4_keep, 2, none, 4, 124)
theorem kI_X4_keep : KI iX4_keep 1 := ⟨jw_724, jw_10, by decide, by decide, by decide +kernel⟩
theorem kV_X4_keep : KV iX4_keep 1 := ⟨kI_X4_keep, jw_722, jw_723⟩
abbrev iX4_dropOldest : MI := (yX4_dropOldest, cX4_dropOldest, 3, none, 0, 0)
theorem kI_X4_dropOldest : KI iX4_dropOldest 0 := ⟨jw_728, jw_10, by decide, by decide, by decide +kernel⟩
theorem kV_X4_dropOldest : KV iX4_dropOldest 0 := ⟨kI_X4_dropOldest, jw_727, jp_15⟩
abbrev iX4_restore : MI := (yX4_restore, cX4_restore, 2, none, 4, 124)
theorem kI_X4_restore : KI iX4_restore 1 := ⟨jw_903, jw_10, by decide, by decide, by decide +kernel⟩
theorem kV_X4_restore : KV iX4_restore 1 := ⟨kI_X4_restore, jw_901, jw_902⟩
abbrev iX5_init : MI := (yX5_init, cX5_init, 1, none, 1, 20)
theorem kI_X5_init : KI iX5_init 0 := ⟨jw_103, jw_6, by decide, by decide, by decide +kernel⟩
theorem kC_X5_init : KC iX5_init 0 := ⟨kI_X5_init, rfl, jw_102⟩
abbrev iX5_become : MI := (yX5_become, cX5_become, 2, none, 2, 81)
theorem kI_X5_become : KI iX5_become 1 := ⟨jw_598, jw_6, by decide, by decide, by decide +kernel⟩
theorem kV_X5_become : KV iX5_become 1 := ⟨kI_X5_become, jw_596, jw_597⟩
abbrev iX5_has : MI := (yX5_has, cX5_has, 2, some .boolean, 0, 0)
theorem kI_X5_has : KI iX5_has 1 := ⟨jw_510, jw_6, by decide, by decide, by decide +kernel⟩
theorem kV_X5_has : KV iX5_has 1 := ⟨kI_X5_has, jw_508, jw_509⟩
abbrev iX5_enter : MI := (yX5_enter, cX5_enter, 2, some .int, 0, 0)
theorem kI_X5_enter : KI iX5_enter 1 := ⟨jw_733, jw_6, by decide, by decide, by decide +kernel⟩
theorem kV_X5_enter : KV iX5_enter 1 := ⟨kI_X5_enter, jw_731, jw_732⟩
abbrev iX6_init : MI := (yX6_init, cX6_init, 1, none, 1, 20)
theorem kI_X6_init : KI iX6_init 0 := ⟨jw_236, jw_11, by decide, by decide, by decide +kernel⟩
theorem kC_X6_init : KC iX6_init 0 := ⟨kI_X6_init, rfl, jw_235⟩
abbrev iX6_put : MI := (yX6_put, cX6_put, 2, none, 0, 0)
theorem kI_X6_put : KI iX6_put 1 := ⟨jw_856, jw_11, by decide, by decide, by decide +kernel⟩
theorem kV_X6_put : KV iX6_put 1 := ⟨kI_X6_put, jw_854, jw_855⟩
abbrev iX6_codeAt : MI := (yX6_codeAt, cX6_codeAt, 2, some .int, 0, 0)
theorem kI_X6_codeAt : KI iX6_codeAt 1 := ⟨jw_274, jw_11, by decide, by decide, by decide +kernel⟩
theorem kV_X6_codeAt : KV iX6_codeAt 1 := ⟨kI_X6_codeAt, jw_272, jw_273⟩
abbrev iX6_digitAt : MI := (yX6_digitAt, cX6_digitAt, 2, some .int, 1, 21)
theorem kI_X6_digitAt : KI iX6_digitAt 1 := ⟨jw_879, jw_11, by decide, by decide, by decide +kernel⟩
theorem kV_X6_digitAt : KV iX6_digitAt 1 := ⟨kI_X6_digitAt, jw_877, jw_878⟩
abbrev iX6_coreAt : MI := (yX6_coreAt, cX6_coreAt, 2, some .int, 2, 42)
theorem kI_X6_coreAt : KI iX6_coreAt 1 := ⟨jw_875, jw_11, by decide, by decide, by decide +kernel⟩
theorem kV_X6_coreAt : KV iX6_coreAt 1 := ⟨kI_X6_coreAt, jw_873, jw_874⟩
abbrev iX6_stepLength : MI := (yX6_stepLength, cX6_stepLength, 2, some .int, 1, 21)
theorem kI_X6_stepLength : KI iX6_stepLength 1 := ⟨jw_892, jw_11, by decide, by decide, by decide +kernel⟩
theorem kV_X6_stepLength : KV iX6_stepLength 1 := ⟨kI_X6_stepLength, jw_890, jw_891⟩
abbrev iX6_errorPlace : MI := (yX6_errorPlace, cX6_errorPlace, 3, some .int, 2, 43)
theorem kI_X6_errorPlace : KI iX6_errorPlace 0 := ⟨jw_270, jw_11, by decide, by decide, by decide +kernel⟩
theorem kV_X6_errorPlace : KV iX6_errorPlace 0 := ⟨kI_X6_errorPlace, jw_268, jw_269⟩
abbrev iX6_isProgram : MI := (yX6_isProgram, cX6_isProgram, 3, some .boolean, 2, 43)
theorem kI_X6_isProgram : KI iX6_isProgram 0 := ⟨jw_867, jw_11, by decide, by decide, by decide +kernel⟩
theorem kV_X6_isProgram : KV iX6_isProgram 0 := ⟨kI_X6_isProgram, jw_865, jw_866⟩
abbrev iX6_wantedBehind : MI := (yX6_wantedBehind, cX6_wantedBehind, 2, some .int, 1, 22)
theorem kI_X6_wantedBehind : KI iX6_wantedBehind 2 := ⟨jw_277, jw_11, by decide, by decide, by decide +kernel⟩
theorem kS_X6_wantedBehind : KS iX6_wantedBehind 2 := ⟨kI_X6_wantedBehind, jw_276⟩
abbrev iX6_wantedInStep : MI := (yX6_wantedInStep, cX6_wantedInStep, 1, some .int, 0, 0)
theorem kI_X6_wantedInStep : KI iX6_wantedInStep 1 := ⟨jw_280, jw_11, by decide, by decide, by decide +kernel⟩
theorem kS_X6_wantedInStep : KS iX6_wantedInStep 1 := ⟨kI_X6_wantedInStep, jw_279⟩
abbrev iX7_init : MI := (yX7_init, cX7_init, 1, none, 4, 122)
theorem kI_X7_init : KI iX7_init 0 := ⟨jw_26, jw_1, by decide, by decide, by decide +kernel⟩
theorem kC_X7_init : KC iX7_init 0 := ⟨kI_X7_init, rfl, jw_25⟩
abbrev iX7_addTenant : MI := (yX7_addTenant, cX7_addTenant, 2, some .int, 8, 145)
theorem kI_X7_addTenant : KI iX7_addTenant 1 := ⟨jw_701, jw_1, by decide, by decide, by decide +kernel⟩
theorem kV_X7_addTenant : KV iX7_addTenant 1 := ⟨kI_X7_addTenant, jw_699, jw_700⟩
abbrev iX7_addInsurer : MI := (yX7_addInsurer, cX7_addInsurer, 4, some .int, 8, 145)
theorem kI_X7_addInsurer : KI iX7_addInsurer 3 := ⟨jw_740, jw_1, by decide, by decide, by decide +kernel⟩
theorem kV_X7_addInsurer : KV iX7_addInsurer 3 := ⟨kI_X7_addInsurer, jw_738, jw_739⟩
abbrev iX7_set : MI := (yX7_set, cX7_set, 4, some .int, 8, 145)
theorem kI_X7_set : KI iX7_set 2 := ⟨jw_752, jw_1, by decide, by decide, by decide +kernel⟩
theorem kV_X7_set : KV iX7_set 2 := ⟨kI_X7_set, jw_750, jw_751⟩
abbrev iX7_lease : MI := (yX7_lease, cX7_lease, 4, some .int, 8, 145)
theorem kI_X7_lease : KI iX7_lease 3 := ⟨jw_761, jw_1, by decide, by decide, by decide +kernel⟩
theorem kV_X7_lease : KV iX7_lease 3 := ⟨kI_X7_lease, jw_759, jw_760⟩
abbrev iX7_insure : MI := (yX7_insure, cX7_insure, 6, some .int, 8, 145)
theorem kI_X7_insure : KI iX7_insure 3 := ⟨jw_778, jw_1, by decide, by decide, by decide +kernel⟩
theorem kV_X7_insure : KV iX7_insure 3 := ⟨kI_X7_insure, jw_776, jw_777⟩
abbrev iX7_renew : MI := (yX7_renew, cX7_renew, 3, some .int, 8, 145)
theorem kI_X7_renew : KI iX7_renew 1 := ⟨jw_794, jw_1, by decide, by decide, by decide +kernel⟩
theorem kV_X7_renew : KV iX7_renew 1 := ⟨kI_X7_renew, jw_792, jw_793⟩
abbrev iX7_write : MI := (yX7_write, cX7_write, 3, some .int, 8, 145)
theorem kI_X7_write : KI iX7_write 2 := ⟨jw_805, jw_1, by decide, by decide, by decide +kernel⟩
theorem kV_X7_write : KV iX7_write 2 := ⟨kI_X7_write, jw_803, jw_804⟩
abbrev iX7_read : MI := (yX7_read, cX7_read, 2, some .int, 8, 145)
theorem kI_X7_read : KI iX7_read 1 := ⟨jw_816, jw_1, by decide, by decide, by decide +kernel⟩
theorem kV_X7_read : KV iX7_read 1 := ⟨kI_X7_read, jw_814, jw_815⟩
abbrev iX7_writeBack : MI := (yX7_writeBack, cX7_writeBack, 1, some .int, 8, 145)
theorem kI_X7_writeBack : KI iX7_writeBack 0 := ⟨jw_833, jw_1, by decide, by decide, by decide +kernel⟩
theorem kV_X7_writeBack : KV iX7_writeBack 0 := ⟨kI_X7_writeBack, jw_831, jw_832⟩
abbrev iX7_pass : MI := (yX7_pass, cX7_pass, 2, some .int, 8, 145)
theorem kI_X7_pass : KI iX7_pass 1 := ⟨jw_840, jw_1, by decide, by decide, by decide +kernel⟩
theorem kV_X7_pass : KV iX7_pass 1 := ⟨kI_X7_pass, jw_838, jw_839⟩
abbrev iX7_append : MI := (yX7_append, cX7_append, 2, some .int, 8, 125)
theorem kI_X7_append : KI iX7_append 1 := ⟨jw_852, jw_1, by decide, by decide, by decide +kernel⟩
theorem kV_X7_append : KV iX7_append 1 := ⟨kI_X7_append, jw_850, jw_851⟩
abbrev iX7_clearBuffer : MI := (yX7_clearBuffer, cX7_clearBuffer, 2, some .int, 0, 0)
theorem kI_X7_clearBuffer : KI iX7_clearBuffer 0 := ⟨jw_262, jw_1, by decide, by decide, by decide +kernel⟩
theorem kV_X7_clearBuffer : KV iX7_clearBuffer 0 := ⟨kI_X7_clearBuffer, jw_260, jw_261⟩
abbrev iX7_firstError : MI := (yX7_firstError, cX7_firstError, 1, some .int, 3, 65)
theorem kI_X7_firstError : KI iX7_firstError 0 := ⟨jw_266, jw_1, by decide, by decide, by decide +kernel⟩
theorem kV_X7_firstError : KV iX7_firstError 0 := ⟨kI_X7_firstError, jw_264, jw_265⟩
abbrev iX7_run : MI := (yX7_run, cX7_run, 4, some .int, 8, 154)
theorem kI_X7_run : KI iX7_run 1 := ⟨jw_863, jw_1, by decide, by decide, by decide +kernel⟩
theorem kV_X7_run : KV iX7_run 1 := ⟨kI_X7_run, jw_861, jw_862⟩
abbrev iX7_undo : MI := (yX7_undo, cX7_undo, 1, some .int, 8, 145)
theorem kI_X7_undo : KI iX7_undo 0 := ⟨jw_899, jw_1, by decide, by decide, by decide +kernel⟩
theorem kV_X7_undo : KV iX7_undo 0 := ⟨kI_X7_undo, jw_897, jw_898⟩
abbrev iX7_core : MI := (yX7_core, cX7_core, 3, some .int, 8, 125)
theorem kI_X7_core : KI iX7_core 2 := ⟨jw_473, jw_1, by decide, by decide, by decide +kernel⟩
theorem kV_X7_core : KV iX7_core 2 := ⟨kI_X7_core, jw_471, jw_472⟩
abbrev iX7_tenant : MI := (yX7_tenant, cX7_tenant, 3, some .int, 8, 126)
theorem kI_X7_tenant : KI iX7_tenant 2 := ⟨jw_502, jw_1, by decide, by decide, by decide +kernel⟩
theorem kV_X7_tenant : KV iX7_tenant 2 := ⟨kI_X7_tenant, jw_500, jw_501⟩
abbrev iX7_insurer : MI := (yX7_insurer, cX7_insurer, 3, some .int, 8, 126)
theorem kI_X7_insurer : KI iX7_insurer 2 := ⟨jw_536, jw_1, by decide, by decide, by decide +kernel⟩
theorem kV_X7_insurer : KV iX7_insurer 2 := ⟨kI_X7_insurer, jw_534, jw_535⟩
abbrev iX7_owed : MI := (yX7_owed, cX7_owed, 4, some .int, 8, 125)
theorem kI_X7_owed : KI iX7_owed 2 := ⟨jw_561, jw_1, by decide, by decide, by decide +kernel⟩
theorem kV_X7_owed : KV iX7_owed 2 := ⟨kI_X7_owed, jw_559, jw_560⟩
abbrev iX7_weakest : MI := (yX7_weakest, cX7_weakest, 4, some .int, 8, 125)
theorem kI_X7_weakest : KI iX7_weakest 1 := ⟨jw_926, jw_1, by decide, by decide, by decide +kernel⟩
theorem kV_X7_weakest : KV iX7_weakest 1 := ⟨kI_X7_weakest, jw_924, jw_925⟩
abbrev iX7_count : MI := (yX7_count, cX7_count, 2, some .int, 8, 125)
theorem kI_X7_count : KI iX7_count 1 := ⟨jw_341, jw_1, by decide, by decide, by decide +kernel⟩
theorem kV_X7_count : KV iX7_count 1 := ⟨kI_X7_count, jw_339, jw_340⟩
abbrev iX7_setting : MI := (yX7_setting, cX7_setting, 2, some .int, 8, 125)
theorem kI_X7_setting : KI iX7_setting 1 := ⟨jw_446, jw_1, by decide, by decide, by decide +kernel⟩
theorem kV_X7_setting : KV iX7_setting 1 := ⟨kI_X7_setting, jw_444, jw_445⟩
abbrev iX7_premium : MI := (yX7_premium, cX7_premium, 4, some .int, 8, 126)
theorem kI_X7_premium : KI iX7_premium 3 := ⟨jw_941, jw_1, by decide, by decide, by decide +kernel⟩
theorem kV_X7_premium : KV iX7_premium 3 := ⟨kI_X7_premium, jw_939, jw_940⟩
abbrev iX7_cheapest : MI := (yX7_cheapest, cX7_cheapest, 8, some .int, 8, 125)
theorem kI_X7_cheapest : KI iX7_cheapest 3 := ⟨jw_948, jw_1, by decide, by decide, by decide +kernel⟩
theorem kV_X7_cheapest : KV iX7_cheapest 3 := ⟨kI_X7_cheapest, jw_946, jw_947⟩
abbrev iX7_waitFor : MI := (yX7_waitFor, cX7_waitFor, 7, some .int, 8, 126)
theorem kI_X7_waitFor : KI iX7_waitFor 4 := ⟨jw_955, jw_1, by decide, by decide, by decide +kernel⟩
theorem kV_X7_waitFor : KV iX7_waitFor 4 := ⟨kI_X7_waitFor, jw_953, jw_954⟩
abbrev iX7_ifRead : MI := (yX7_ifRead, cX7_ifRead, 3, some .int, 8, 125)
theorem kI_X7_ifRead : KI iX7_ifRead 2 := ⟨jw_962, jw_1, by decide, by decide, by decide +kernel⟩
theorem kV_X7_ifRead : KV iX7_ifRead 2 := ⟨kI_X7_ifRead, jw_960, jw_961⟩
abbrev iX7_gentlest : MI := (yX7_gentlest, cX7_gentlest, 9, some .int, 4, 85)
theorem kI_X7_gentlest : KI iX7_gentlest 0 := ⟨jw_287, jw_1, by decide, by decide, by decide +kernel⟩
theorem kV_X7_gentlest : KV iX7_gentlest 0 := ⟨kI_X7_gentlest, jw_285, jw_286⟩
abbrev iX7_savable : MI := (yX7_savable, cX7_savable, 4, some .int, 8, 131)
theorem kI_X7_savable : KI iX7_savable 1 := ⟨jw_580, jw_1, by decide, by decide, by decide +kernel⟩
theorem kV_X7_savable : KV iX7_savable 1 := ⟨kI_X7_savable, jw_578, jw_579⟩
abbrev iX7_atRisk : MI := (yX7_atRisk, cX7_atRisk, 6, some .int, 8, 126)
theorem kI_X7_atRisk : KI iX7_atRisk 1 := ⟨jw_524, jw_1, by decide, by decide, by decide +kernel⟩
theorem kV_X7_atRisk : KV iX7_atRisk 1 := ⟨kI_X7_atRisk, jw_522, jw_523⟩
abbrev iX7_backShare : MI := (yX7_backShare, cX7_backShare, 2, some .double, 0, 0)
theorem kI_X7_backShare : KI iX7_backShare 0 := ⟨jw_332, jw_1, by decide, by decide, by decide +kernel⟩
theorem kV_X7_backShare : KV iX7_backShare 0 := ⟨kI_X7_backShare, jw_330, jw_331⟩
abbrev iX7_digest : MI := (yX7_digest, cX7_digest, 5, some .long, 10, 177)
theorem kI_X7_digest : KI iX7_digest 0 := ⟨jw_336, jw_1, by decide, by decide, by decide +kernel⟩
theorem kV_X7_digest : KV iX7_digest 0 := ⟨kI_X7_digest, jw_334, jw_335⟩
abbrev iX7_mixed : MI := (yX7_mixed, cX7_mixed, 4, some .long, 0, 0)
theorem kI_X7_mixed : KI iX7_mixed 2 := ⟨jw_441, jw_1, by decide, by decide, by decide +kernel⟩
theorem kS_X7_mixed : KS iX7_mixed 2 := ⟨kI_X7_mixed, jw_440⟩
abbrev iX7_withCores : MI := (yX7_withCores, cX7_withCores, 9, some .long, 9, 147)
theorem kI_X7_withCores : KI iX7_withCores 1 := ⟨jw_469, jw_1, by decide, by decide, by decide +kernel⟩
theorem kV_X7_withCores : KV iX7_withCores 1 := ⟨kI_X7_withCores, jw_468, jp_1⟩
abbrev iX7_withTenants : MI := (yX7_withTenants, cX7_withTenants, 7, some .long, 9, 151)
theorem kI_X7_withTenants : KI iX7_withTenants 1 := ⟨jw_498, jw_1, by decide, by decide, by decide +kernel⟩
theorem kV_X7_withTenants : KV iX7_withTenants 1 := ⟨kI_X7_withTenants, jw_497, jp_2⟩
abbrev iX7_withInsurers : MI := (yX7_withInsurers, cX7_withInsurers, 7, some .long, 9, 148)
theorem kI_X7_withInsurers : KI iX7_withInsurers 1 := ⟨jw_532, jw_1, by decide, by decide, by decide +kernel⟩
theorem kV_X7_withInsurers : KV iX7_withInsurers 1 := ⟨kI_X7_withInsurers, jw_531, jp_4⟩
abbrev iX7_withDebts : MI := (yX7_withDebts, cX7_withDebts, 6, some .long, 9, 148)
theorem kI_X7_withDebts : KI iX7_withDebts 1 := ⟨jw_557, jw_1, by decide, by decide, by decide +kernel⟩
theorem kV_X7_withDebts : KV iX7_withDebts 1 := ⟨kI_X7_withDebts, jw_556, jp_6⟩
abbrev iX7_withText : MI := (yX7_withText, cX7_withText, 6, some .long, 1, 23)
theorem kI_X7_withText : KI iX7_withText 1 := ⟨jw_691, jw_1, by decide, by decide, by decide +kernel⟩
theorem kV_X7_withText : KV iX7_withText 1 := ⟨kI_X7_withText, jw_690, jp_14⟩
abbrev iX7_bitsOfShare : MI := (yX7_bitsOfShare, cX7_bitsOfShare, 8, some .long, 0, 0)
theorem kI_X7_bitsOfShare : KI iX7_bitsOfShare 1 := ⟨jw_684, jw_1, by decide, by decide, by decide +kernel⟩
theorem kS_X7_bitsOfShare : KS iX7_bitsOfShare 1 := ⟨kI_X7_bitsOfShare, jw_683⟩
abbrev iX7_canDoStep : MI := (yX7_canDoStep, cX7_canDoStep, 4, some .boolean, 3, 64)
theorem kI_X7_canDoStep : KI iX7_canDoStep 2 := ⟨jw_871, jw_1, by decide, by decide, by decide +kernel⟩
theorem kV_X7_canDoStep : KV iX7_canDoStep 2 := ⟨kI_X7_canDoStep, jw_870, jp_16⟩
abbrev iX7_doStep : MI := (yX7_doStep, cX7_doStep, 3, none, 6, 132)
theorem kI_X7_doStep : KI iX7_doStep 1 := ⟨jw_888, jw_1, by decide, by decide, by decide +kernel⟩
theorem kV_X7_doStep : KV iX7_doStep 1 := ⟨kI_X7_doStep, jw_887, jp_17⟩
abbrev iX7_within : MI := (yX7_within, cX7_within, 3, some .boolean, 0, 0)
theorem kI_X7_within : KI iX7_within 3 := ⟨jw_283, jw_1, by decide, by decide, by decide +kernel⟩
theorem kS_X7_within : KS iX7_within 3 := ⟨kI_X7_within, jw_282⟩
abbrev iX7_isCore : MI := (yX7_isCore, cX7_isCore, 1, some .boolean, 1, 22)
theorem kI_X7_isCore : KI iX7_isCore 1 := ⟨jw_479, jw_1, by decide, by decide, by decide +kernel⟩
theorem kS_X7_isCore : KS iX7_isCore 1 := ⟨kI_X7_isCore, jw_478⟩
abbrev iX7_requireCore : MI := (yX7_requireCore, cX7_requireCore, 1, none, 7, 105)
theorem kI_X7_requireCore : KI iX7_requireCore 1 := ⟨jw_476, jw_1, by decide, by decide, by decide +kernel⟩
theorem kS_X7_requireCore : KS iX7_requireCore 1 := ⟨kI_X7_requireCore, jw_475⟩
abbrev iX7_requireTenant : MI := (yX7_requireTenant, cX7_requireTenant, 2, none, 7, 105)
theorem kI_X7_requireTenant : KI iX7_requireTenant 1 := ⟨jw_506, jw_1, by decide, by decide, by decide +kernel⟩
theorem kV_X7_requireTenant : KV iX7_requireTenant 1 := ⟨kI_X7_requireTenant, jw_505, jp_3⟩
abbrev iX7_requireInsurer : MI := (yX7_requireInsurer, cX7_requireInsurer, 2, none, 7, 105)
theorem kI_X7_requireInsurer : KI iX7_requireInsurer 1 := ⟨jw_540, jw_1, by decide, by decide, by decide +kernel⟩
theorem kV_X7_requireInsurer : KV iX7_requireInsurer 1 := ⟨kI_X7_requireInsurer, jw_539, jp_5⟩
abbrev iX7_requireSetting : MI := (yX7_requireSetting, cX7_requireSetting, 1, none, 7, 105)
theorem kI_X7_requireSetting : KI iX7_requireSetting 1 := ⟨jw_449, jw_1, by decide, by decide, by decide +kernel⟩
theorem kS_X7_requireSetting : KS iX7_requireSetting 1 := ⟨kI_X7_requireSetting, jw_448⟩
abbrev iX7_requireArgument : MI := (yX7_requireArgument, cX7_requireArgument, 1, none, 7, 105)
theorem kI_X7_requireArgument : KI iX7_requireArgument 1 := ⟨jw_345, jw_1, by decide, by decide, by decide +kernel⟩
theorem kS_X7_requireArgument : KS iX7_requireArgument 1 := ⟨kI_X7_requireArgument, jw_344⟩
abbrev iX7_requireState : MI := (yX7_requireState, cX7_requireState, 1, none, 7, 105)
theorem kI_X7_requireState : KI iX7_requireState 1 := ⟨jw_704, jw_1, by decide, by decide, by decide +kernel⟩
theorem kS_X7_requireState : KS iX7_requireState 1 := ⟨kI_X7_requireState, jw_703⟩
abbrev iX7_maskOf : MI := (yX7_maskOf, cX7_maskOf, 1, some .long, 0, 0)
theorem kI_X7_maskOf : KI iX7_maskOf 1 := ⟨jw_302, jw_1, by decide, by decide, by decide +kernel⟩
theorem kS_X7_maskOf : KS iX7_maskOf 1 := ⟨kI_X7_maskOf, jw_301⟩
abbrev iX7_linesOf : MI := (yX7_linesOf, cX7_linesOf, 5, some .long, 1, 20)
theorem kI_X7_linesOf : KI iX7_linesOf 1 := ⟨jw_318, jw_1, by decide, by decide, by decide +kernel⟩
theorem kS_X7_linesOf : KS iX7_linesOf 1 := ⟨kI_X7_linesOf, jw_317⟩
abbrev iX7_copyRow : MI := (yX7_copyRow, cX7_copyRow, 2, none, 1, 60)
theorem kI_X7_copyRow : KI iX7_copyRow 2 := ⟨jw_165, jw_1, by decide, by decide, by decide +kernel⟩
theorem kS_X7_copyRow : KS iX7_copyRow 2 := ⟨kI_X7_copyRow, jw_164⟩
abbrev iX8_init : MI := (yX8_init, cX8_init, 2, none, 1, 23)
theorem kI_X8_init : KI iX8_init 0 := ⟨jw_978, jw_12, by decide, by decide, by decide +kernel⟩
theorem kC_X8_init : KC iX8_init 0 := ⟨kI_X8_init, rfl, jw_977⟩
abbrev iX8_thrown : MI := (yX8_thrown, cX8_thrown, 1, some .int, 0, 0)
theorem kI_X8_thrown : KI iX8_thrown 0 := ⟨jw_1030, jw_12, by decide, by decide, by decide +kernel⟩
theorem kV_X8_thrown : KV iX8_thrown 0 := ⟨kI_X8_thrown, jw_1028, jw_1029⟩
abbrev iX8_fails : MI := (yX8_fails, cX8_fails, 2, some .int, 0, 0)
theorem kI_X8_fails : KI iX8_fails 1 := ⟨jw_1041, jw_12, by decide, by decide, by decide +kernel⟩
theorem kV_X8_fails : KV iX8_fails 1 := ⟨kI_X8_fails, jw_1040, jp_19⟩
abbrev iX8_within : MI := (yX8_within, cX8_within, 3, some .boolean, 0, 0)
theorem kI_X8_within : KI iX8_within 3 := ⟨jw_1037, jw_12, by decide, by decide, by decide +kernel⟩
theorem kS_X8_within : KS iX8_within 3 := ⟨kI_X8_within, jw_1036⟩
abbrev iX8_less : MI := (yX8_less, cX8_less, 2, some .int, 0, 0)
theorem kI_X8_less : KI iX8_less 2 := ⟨jw_1151, jw_12, by decide, by decide, by decide +kernel⟩
theorem kS_X8_less : KS iX8_less 2 := ⟨kI_X8_less, jw_1150⟩
abbrev iX8_notBelow : MI := (yX8_notBelow, cX8_notBelow, 1, some .int, 0, 0)
theorem kI_X8_notBelow : KI iX8_notBelow 1 := ⟨jw_1133, jw_12, by decide, by decide, by decide +kernel⟩
theorem kS_X8_notBelow : KS iX8_notBelow 1 := ⟨kI_X8_notBelow, jw_1132⟩
abbrev iX8_isCore : MI := (yX8_isCore, cX8_isCore, 1, some .boolean, 1, 22)
theorem kI_X8_isCore : KI iX8_isCore 1 := ⟨jw_1067, jw_12, by decide, by decide, by decide +kernel⟩
theorem kS_X8_isCore : KS iX8_isCore 1 := ⟨kI_X8_isCore, jw_1066⟩
abbrev iX8_isTenant : MI := (yX8_isTenant, cX8_isTenant, 2, some .boolean, 1, 22)
theorem kI_X8_isTenant : KI iX8_isTenant 1 := ⟨jw_1071, jw_12, by decide, by decide, by decide +kernel⟩
theorem kV_X8_isTenant : KV iX8_isTenant 1 := ⟨kI_X8_isTenant, jw_1070, jp_22⟩
abbrev iX8_isInsurer : MI := (yX8_isInsurer, cX8_isInsurer, 2, some .boolean, 1, 22)
theorem kI_X8_isInsurer : KI iX8_isInsurer 1 := ⟨jw_1094, jw_12, by decide, by decide, by decide +kernel⟩
theorem kV_X8_isInsurer : KV iX8_isInsurer 1 := ⟨kI_X8_isInsurer, jw_1093, jp_26⟩
abbrev iX8_of : MI := (yX8_of, cX8_of, 3, some .int, 0, 0)
theorem kI_X8_of : KI iX8_of 2 := ⟨jw_1082, jw_12, by decide, by decide, by decide +kernel⟩
theorem kV_X8_of : KV iX8_of 2 := ⟨kI_X8_of, jw_1081, jp_24⟩
abbrev iX8_lay : MI := (yX8_lay, cX8_lay, 4, none, 0, 0)
theorem kI_X8_lay : KI iX8_lay 3 := ⟨jw_983, jw_12, by decide, by decide, by decide +kernel⟩
theorem kV_X8_lay : KV iX8_lay 3 := ⟨kI_X8_lay, jw_982, jp_18⟩
abbrev iX8_ofTenant : MI := (yX8_ofTenant, cX8_ofTenant, 3, some .int, 0, 0)
theorem kI_X8_ofTenant : KI iX8_ofTenant 2 := ⟨jw_1086, jw_12, by decide, by decide, by decide +kernel⟩
theorem kV_X8_ofTenant : KV iX8_ofTenant 2 := ⟨kI_X8_ofTenant, jw_1085, jp_25⟩
abbrev iX8_ofInsurer : MI := (yX8_ofInsurer, cX8_ofInsurer, 3, some .int, 0, 0)
theorem kI_X8_ofInsurer : KI iX8_ofInsurer 2 := ⟨jw_1106, jw_12, by decide, by decide, by decide +kernel⟩
theorem kV_X8_ofInsurer : KV iX8_ofInsurer 2 := ⟨kI_X8_ofInsurer, jw_1105, jp_29⟩
abbrev iX8_rule : MI := (yX8_rule, cX8_rule, 2, some .int, 0, 0)
theorem kI_X8_rule : KI iX8_rule 1 := ⟨jw_1060, jw_12, by decide, by decide, by decide +kernel⟩
theorem kV_X8_rule : KV iX8_rule 1 := ⟨kI_X8_rule, jw_1059, jp_21⟩
abbrev iX8_save : MI := (yX8_save, cX8_save, 2, none, 0, 0)
theorem kI_X8_save : KI iX8_save 0 := ⟨jw_1045, jw_12, by decide, by decide, by decide +kernel⟩
theorem kV_X8_save : KV iX8_save 0 := ⟨kI_X8_save, jw_1044, jp_20⟩
abbrev iX8_keep : MI := (yX8_keep, cX8_keep, 2, none, 0, 0)
theorem kI_X8_keep : KI iX8_keep 0 := ⟨jw_1371, jw_12, by decide, by decide, by decide +kernel⟩
theorem kV_X8_keep : KV iX8_keep 0 := ⟨kI_X8_keep, jw_1370, jp_70⟩
abbrev iX8_bring : MI := (yX8_bring, cX8_bring, 2, none, 0, 0)
theorem kI_X8_bring : KI iX8_bring 0 := ⟨jw_1375, jw_12, by decide, by decide, by decide +kernel⟩
theorem kV_X8_bring : KV iX8_bring 0 := ⟨kI_X8_bring, jw_1374, jp_71⟩
abbrev iX8_addTenant : MI := (yX8_addTenant, cX8_addTenant, 2, some .int, 1, 22)
theorem kI_X8_addTenant : KI iX8_addTenant 1 := ⟨jw_1034, jw_12, by decide, by decide, by decide +kernel⟩
theorem kV_X8_addTenant : KV iX8_addTenant 1 := ⟨kI_X8_addTenant, jw_1032, jw_1033⟩
abbrev iX8_addInsurer : MI := (yX8_addInsurer, cX8_addInsurer, 5, some .int, 1, 22)
theorem kI_X8_addInsurer : KI iX8_addInsurer 3 := ⟨jw_1049, jw_12, by decide, by decide, by decide +kernel⟩
theorem kV_X8_addInsurer : KV iX8_addInsurer 3 := ⟨kI_X8_addInsurer, jw_1047, jw_1048⟩
abbrev iX8_mostOf : MI := (yX8_mostOf, cX8_mostOf, 1, some .int, 0, 0)
theorem kI_X8_mostOf : KI iX8_mostOf 1 := ⟨jw_1056, jw_12, by decide, by decide, by decide +kernel⟩
theorem kS_X8_mostOf : KS iX8_mostOf 1 := ⟨kI_X8_mostOf, jw_1055⟩
abbrev iX8_set : MI := (yX8_set, cX8_set, 4, some .int, 1, 22)
theorem kI_X8_set : KI iX8_set 2 := ⟨jw_1053, jw_12, by decide, by decide, by decide +kernel⟩
theorem kV_X8_set : KV iX8_set 2 := ⟨kI_X8_set, jw_1051, jw_1052⟩
abbrev iX8_areTicks : MI := (yX8_areTicks, cX8_areTicks, 1, some .boolean, 1, 22)
theorem kI_X8_areTicks : KI iX8_areTicks 1 := ⟨jw_1074, jw_12, by decide, by decide, by decide +kernel⟩
theorem kS_X8_areTicks : KS iX8_areTicks 1 := ⟨kI_X8_areTicks, jw_1073⟩
abbrev iX8_isLeased : MI := (yX8_isLeased, cX8_isLeased, 2, some .boolean, 1, 22)
theorem kI_X8_isLeased : KI iX8_isLeased 1 := ⟨jw_1078, jw_12, by decide, by decide, by decide +kernel⟩
theorem kV_X8_isLeased : KV iX8_isLeased 1 := ⟨kI_X8_isLeased, jw_1077, jp_23⟩
abbrev iX8_isOwed : MI := (yX8_isOwed, cX8_isOwed, 2, some .boolean, 1, 22)
theorem kI_X8_isOwed : KI iX8_isOwed 1 := ⟨jw_1155, jw_12, by decide, by decide, by decide +kernel⟩
theorem kV_X8_isOwed : KV iX8_isOwed 1 := ⟨kI_X8_isOwed, jw_1154, jp_37⟩
abbrev iX8_lease : MI := (yX8_lease, cX8_lease, 5, some .int, 2, 43)
theorem kI_X8_lease : KI iX8_lease 3 := ⟨jw_1064, jw_12, by decide, by decide, by decide +kernel⟩
theorem kV_X8_lease : KV iX8_lease 3 := ⟨kI_X8_lease, jw_1062, jw_1063⟩
abbrev iX8_premiumBy : MI := (yX8_premiumBy, cX8_premiumBy, 5, some .int, 1, 22)
theorem kI_X8_premiumBy : KI iX8_premiumBy 4 := ⟨jw_1102, jw_12, by decide, by decide, by decide +kernel⟩
theorem kV_X8_premiumBy : KV iX8_premiumBy 4 := ⟨kI_X8_premiumBy, jw_1101, jp_28⟩
abbrev iX8_premiumNow : MI := (yX8_premiumNow, cX8_premiumNow, 4, some .int, 2, 46)
theorem kI_X8_premiumNow : KI iX8_premiumNow 3 := ⟨jw_1098, jw_12, by decide, by decide, by decide +kernel⟩
theorem kV_X8_premiumNow : KV iX8_premiumNow 3 := ⟨kI_X8_premiumNow, jw_1097, jp_27⟩
abbrev iX8_pay : MI := (yX8_pay, cX8_pay, 6, none, 0, 0)
theorem kI_X8_pay : KI iX8_pay 1 := ⟨jw_1110, jw_12, by decide, by decide, by decide +kernel⟩
theorem kV_X8_pay : KV iX8_pay 1 := ⟨kI_X8_pay, jw_1109, jp_30⟩
abbrev iX8_insure : MI := (yX8_insure, cX8_insure, 6, some .int, 3, 69)
theorem kI_X8_insure : KI iX8_insure 3 := ⟨jw_1090, jw_12, by decide, by decide, by decide +kernel⟩
theorem kV_X8_insure : KV iX8_insure 3 := ⟨kI_X8_insure, jw_1088, jw_1089⟩
abbrev iX8_renew : MI := (yX8_renew, cX8_renew, 3, some .int, 2, 43)
theorem kI_X8_renew : KI iX8_renew 1 := ⟨jw_1114, jw_12, by decide, by decide, by decide +kernel⟩
theorem kV_X8_renew : KV iX8_renew 1 := ⟨kI_X8_renew, jw_1112, jw_1113⟩
abbrev iX8_loses : MI := (yX8_loses, cX8_loses, 5, none, 2, 43)
theorem kI_X8_loses : KI iX8_loses 1 := ⟨jw_1144, jw_12, by decide, by decide, by decide +kernel⟩
theorem kV_X8_loses : KV iX8_loses 1 := ⟨kI_X8_loses, jw_1143, jp_35⟩
abbrev iX8_areInLine : MI := (yX8_areInLine, cX8_areInLine, 2, some .boolean, 0, 0)
theorem kI_X8_areInLine : KI iX8_areInLine 2 := ⟨jw_1136, jw_12, by decide, by decide, by decide +kernel⟩
theorem kS_X8_areInLine : KS iX8_areInLine 2 := ⟨kI_X8_areInLine, jw_1135⟩
abbrev iX8_isWeak : MI := (yX8_isWeak, cX8_isWeak, 2, some .boolean, 1, 22)
theorem kI_X8_isWeak : KI iX8_isWeak 1 := ⟨jw_1140, jw_12, by decide, by decide, by decide +kernel⟩
theorem kV_X8_isWeak : KV iX8_isWeak 1 := ⟨kI_X8_isWeak, jw_1139, jp_34⟩
abbrev iX8_worn : MI := (yX8_worn, cX8_worn, 2, some .int, 1, 22)
theorem kI_X8_worn : KI iX8_worn 1 := ⟨jw_1130, jw_12, by decide, by decide, by decide +kernel⟩
theorem kV_X8_worn : KV iX8_worn 1 := ⟨kI_X8_worn, jw_1129, jp_33⟩
abbrev iX8_heated : MI := (yX8_heated, cX8_heated, 2, some .int, 1, 21)
theorem kI_X8_heated : KI iX8_heated 1 := ⟨jw_1148, jw_12, by decide, by decide, by decide +kernel⟩
theorem kV_X8_heated : KV iX8_heated 1 := ⟨kI_X8_heated, jw_1147, jp_36⟩
abbrev iX8_pulse : MI := (yX8_pulse, cX8_pulse, 4, none, 3, 67)
theorem kI_X8_pulse : KI iX8_pulse 2 := ⟨jw_1126, jw_12, by decide, by decide, by decide +kernel⟩
theorem kV_X8_pulse : KV iX8_pulse 2 := ⟨kI_X8_pulse, jw_1125, jp_32⟩
abbrev iX8_writes : MI := (yX8_writes, cX8_writes, 3, some .int, 4, 90)
theorem kI_X8_writes : KI iX8_writes 2 := ⟨jw_1122, jw_12, by decide, by decide, by decide +kernel⟩
theorem kV_X8_writes : KV iX8_writes 2 := ⟨kI_X8_writes, jw_1121, jp_31⟩
abbrev iX8_write : MI := (yX8_write, cX8_write, 3, some .int, 5, 112)
theorem kI_X8_write : KI iX8_write 2 := ⟨jw_1118, jw_12, by decide, by decide, by decide +kernel⟩
theorem kV_X8_write : KV iX8_write 2 := ⟨kI_X8_write, jw_1116, jw_1117⟩
abbrev iX8_canRead : MI := (yX8_canRead, cX8_canRead, 2, some .boolean, 2, 43)
theorem kI_X8_canRead : KI iX8_canRead 1 := ⟨jw_1163, jw_12, by decide, by decide, by decide +kernel⟩
theorem kV_X8_canRead : KV iX8_canRead 1 := ⟨kI_X8_canRead, jw_1162, jp_38⟩
abbrev iX8_reads : MI := (yX8_reads, cX8_reads, 3, some .int, 4, 90)
theorem kI_X8_reads : KI iX8_reads 1 := ⟨jw_1167, jw_12, by decide, by decide, by decide +kernel⟩
theorem kV_X8_reads : KV iX8_reads 1 := ⟨kI_X8_reads, jw_1166, jp_39⟩
abbrev iX8_read : MI := (yX8_read, cX8_read, 2, some .int, 5, 112)
theorem kI_X8_read : KI iX8_read 1 := ⟨jw_1159, jw_12, by decide, by decide, by decide +kernel⟩
theorem kV_X8_read : KV iX8_read 1 := ⟨kI_X8_read, jw_1157, jw_1158⟩
abbrev iX8_comesAhead : MI := (yX8_comesAhead, cX8_comesAhead, 3, some .boolean, 1, 22)
theorem kI_X8_comesAhead : KI iX8_comesAhead 2 := ⟨jw_1187, jw_12, by decide, by decide, by decide +kernel⟩
theorem kV_X8_comesAhead : KV iX8_comesAhead 2 := ⟨kI_X8_comesAhead, jw_1186, jp_43⟩
abbrev iX8_layOwed : MI := (yX8_layOwed, cX8_layOwed, 4, some .int, 2, 44)
theorem kI_X8_layOwed : KI iX8_layOwed 0 := ⟨jw_1183, jw_12, by decide, by decide, by decide +kernel⟩
theorem kV_X8_layOwed : KV iX8_layOwed 0 := ⟨kI_X8_layOwed, jw_1182, jp_42⟩
abbrev iX8_owedMany : MI := (yX8_owedMany, cX8_owedMany, 3, some .int, 2, 43)
theorem kI_X8_owedMany : KI iX8_owedMany 0 := ⟨jw_1175, jw_12, by decide, by decide, by decide +kernel⟩
theorem kV_X8_owedMany : KV iX8_owedMany 0 := ⟨kI_X8_owedMany, jw_1174, jp_40⟩
abbrev iX8_writesBack : MI := (yX8_writesBack, cX8_writesBack, 2, some .int, 4, 90)
theorem kI_X8_writesBack : KI iX8_writesBack 0 := ⟨jw_1179, jw_12, by decide, by decide, by decide +kernel⟩
theorem kV_X8_writesBack : KV iX8_writesBack 0 := ⟨kI_X8_writesBack, jw_1178, jp_41⟩
abbrev iX8_writeBack : MI := (yX8_writeBack, cX8_writeBack, 1, some .int, 5, 111)
theorem kI_X8_writeBack : KI iX8_writeBack 0 := ⟨jw_1171, jw_12, by decide, by decide, by decide +kernel⟩
theorem kV_X8_writeBack : KV iX8_writeBack 0 := ⟨kI_X8_writeBack, jw_1169, jw_1170⟩
abbrev iX8_endPolicies : MI := (yX8_endPolicies, cX8_endPolicies, 2, none, 1, 23)
theorem kI_X8_endPolicies : KI iX8_endPolicies 0 := ⟨jw_1199, jw_12, by decide, by decide, by decide +kernel⟩
theorem kV_X8_endPolicies : KV iX8_endPolicies 0 := ⟨kI_X8_endPolicies, jw_1198, jp_45⟩
abbrev iX8_endLeases : MI := (yX8_endLeases, cX8_endLeases, 2, none, 2, 43)
theorem kI_X8_endLeases : KI iX8_endLeases 0 := ⟨jw_1203, jw_12, by decide, by decide, by decide +kernel⟩
theorem kV_X8_endLeases : KV iX8_endLeases 0 := ⟨kI_X8_endLeases, jw_1202, jp_46⟩
abbrev iX8_tick : MI := (yX8_tick, cX8_tick, 4, none, 3, 67)
theorem kI_X8_tick : KI iX8_tick 0 := ⟨jw_1195, jw_12, by decide, by decide, by decide +kernel⟩
theorem kV_X8_tick : KV iX8_tick 0 := ⟨kI_X8_tick, jw_1194, jp_44⟩
abbrev iX8_pass : MI := (yX8_pass, cX8_pass, 3, some .int, 4, 90)
theorem kI_X8_pass : KI iX8_pass 1 := ⟨jw_1191, jw_12, by decide, by decide, by decide +kernel⟩
theorem kV_X8_pass : KV iX8_pass 1 := ⟨kI_X8_pass, jw_1189, jw_1190⟩
abbrev iX8_append : MI := (yX8_append, cX8_append, 2, some .int, 1, 22)
theorem kI_X8_append : KI iX8_append 1 := ⟨jw_1207, jw_12, by decide, by decide, by decide +kernel⟩
theorem kV_X8_append : KV iX8_append 1 := ⟨kI_X8_append, jw_1205, jw_1206⟩
abbrev iX8_clearBuffer : MI := (yX8_clearBuffer, cX8_clearBuffer, 2, some .int, 0, 0)
theorem kI_X8_clearBuffer : KI iX8_clearBuffer 0 := ⟨jw_1211, jw_12, by decide, by decide, by decide +kernel⟩
theorem kV_X8_clearBuffer : KV iX8_clearBuffer 0 := ⟨kI_X8_clearBuffer, jw_1209, jw_1210⟩
abbrev iX8_goes : MI := (yX8_goes, cX8_goes, 3, some .boolean, 0, 0)
theorem kI_X8_goes : KI iX8_goes 2 := ⟨jw_1231, jw_12, by decide, by decide, by decide +kernel⟩
theorem kV_X8_goes : KV iX8_goes 2 := ⟨kI_X8_goes, jw_1230, jp_50⟩
abbrev iX8_ends : MI := (yX8_ends, cX8_ends, 2, some .boolean, 1, 22)
theorem kI_X8_ends : KI iX8_ends 1 := ⟨jw_1235, jw_12, by decide, by decide, by decide +kernel⟩
theorem kV_X8_ends : KV iX8_ends 1 := ⟨kI_X8_ends, jw_1234, jp_51⟩
abbrev iX8_begins : MI := (yX8_begins, cX8_begins, 2, some .boolean, 2, 43)
theorem kI_X8_begins : KI iX8_begins 1 := ⟨jw_1227, jw_12, by decide, by decide, by decide +kernel⟩
theorem kV_X8_begins : KV iX8_begins 1 := ⟨kI_X8_begins, jw_1226, jp_49⟩
abbrev iX8_takes : MI := (yX8_takes, cX8_takes, 3, some .boolean, 3, 64)
theorem kI_X8_takes : KI iX8_takes 1 := ⟨jw_1223, jw_12, by decide, by decide, by decide +kernel⟩
theorem kV_X8_takes : KV iX8_takes 1 := ⟨kI_X8_takes, jw_1222, jp_48⟩
abbrev iX8_scan : MI := (yX8_scan, cX8_scan, 2, some .int, 4, 86)
theorem kI_X8_scan : KI iX8_scan 0 := ⟨jw_1219, jw_12, by decide, by decide, by decide +kernel⟩
theorem kV_X8_scan : KV iX8_scan 0 := ⟨kI_X8_scan, jw_1218, jp_47⟩
abbrev iX8_firstError : MI := (yX8_firstError, cX8_firstError, 1, some .int, 5, 107)
theorem kI_X8_firstError : KI iX8_firstError 0 := ⟨jw_1215, jw_12, by decide, by decide, by decide +kernel⟩
theorem kV_X8_firstError : KV iX8_firstError 0 := ⟨kI_X8_firstError, jw_1213, jw_1214⟩
abbrev iX8_mayDo : MI := (yX8_mayDo, cX8_mayDo, 4, some .boolean, 3, 65)
theorem kI_X8_mayDo : KI iX8_mayDo 2 := ⟨jw_1243, jw_12, by decide, by decide, by decide +kernel⟩
theorem kV_X8_mayDo : KV iX8_mayDo 2 := ⟨kI_X8_mayDo, jw_1242, jp_52⟩
abbrev iX8_does : MI := (yX8_does, cX8_does, 3, none, 5, 112)
theorem kI_X8_does : KI iX8_does 1 := ⟨jw_1247, jw_12, by decide, by decide, by decide +kernel⟩
theorem kV_X8_does : KV iX8_does 1 := ⟨kI_X8_does, jw_1246, jp_53⟩
abbrev iX8_run : MI := (yX8_run, cX8_run, 3, some .int, 6, 134)
theorem kI_X8_run : KI iX8_run 1 := ⟨jw_1239, jw_12, by decide, by decide, by decide +kernel⟩
theorem kV_X8_run : KV iX8_run 1 := ⟨kI_X8_run, jw_1237, jw_1238⟩
abbrev iX8_undo : MI := (yX8_undo, cX8_undo, 2, some .int, 1, 21)
theorem kI_X8_undo : KI iX8_undo 0 := ⟨jw_1251, jw_12, by decide, by decide, by decide +kernel⟩
theorem kV_X8_undo : KV iX8_undo 0 := ⟨kI_X8_undo, jw_1249, jw_1250⟩
abbrev iX8_coreNow : MI := (yX8_coreNow, cX8_coreNow, 3, some .int, 2, 43)
theorem kI_X8_coreNow : KI iX8_coreNow 2 := ⟨jw_1259, jw_12, by decide, by decide, by decide +kernel⟩
theorem kV_X8_coreNow : KV iX8_coreNow 2 := ⟨kI_X8_coreNow, jw_1258, jp_54⟩
abbrev iX8_core : MI := (yX8_core, cX8_core, 3, some .int, 3, 65)
theorem kI_X8_core : KI iX8_core 2 := ⟨jw_1255, jw_12, by decide, by decide, by decide +kernel⟩
theorem kV_X8_core : KV iX8_core 2 := ⟨kI_X8_core, jw_1253, jw_1254⟩
abbrev iX8_coresOf : MI := (yX8_coresOf, cX8_coresOf, 5, some .int, 1, 22)
theorem kI_X8_coresOf : KI iX8_coresOf 2 := ⟨jw_1271, jw_12, by decide, by decide, by decide +kernel⟩
theorem kV_X8_coresOf : KV iX8_coresOf 2 := ⟨kI_X8_coresOf, jw_1270, jp_56⟩
abbrev iX8_waitsOf : MI := (yX8_waitsOf, cX8_waitsOf, 5, some .int, 1, 22)
theorem kI_X8_waitsOf : KI iX8_waitsOf 1 := ⟨jw_1275, jw_12, by decide, by decide, by decide +kernel⟩
theorem kV_X8_waitsOf : KV iX8_waitsOf 1 := ⟨kI_X8_waitsOf, jw_1274, jp_57⟩
abbrev iX8_tenantNow : MI := (yX8_tenantNow, cX8_tenantNow, 3, some .int, 2, 46)
theorem kI_X8_tenantNow : KI iX8_tenantNow 2 := ⟨jw_1267, jw_12, by decide, by decide, by decide +kernel⟩
theorem kV_X8_tenantNow : KV iX8_tenantNow 2 := ⟨kI_X8_tenantNow, jw_1266, jp_55⟩
abbrev iX8_tenant : MI := (yX8_tenant, cX8_tenant, 3, some .int, 3, 68)
theorem kI_X8_tenant : KI iX8_tenant 2 := ⟨jw_1263, jw_12, by decide, by decide, by decide +kernel⟩
theorem kV_X8_tenant : KV iX8_tenant 2 := ⟨kI_X8_tenant, jw_1261, jw_1262⟩
abbrev iX8_policiesOf : MI := (yX8_policiesOf, cX8_policiesOf, 4, some .int, 1, 22)
theorem kI_X8_policiesOf : KI iX8_policiesOf 1 := ⟨jw_1287, jw_12, by decide, by decide, by decide +kernel⟩
theorem kV_X8_policiesOf : KV iX8_policiesOf 1 := ⟨kI_X8_policiesOf, jw_1286, jp_59⟩
abbrev iX8_insurerNow : MI := (yX8_insurerNow, cX8_insurerNow, 3, some .int, 2, 45)
theorem kI_X8_insurerNow : KI iX8_insurerNow 2 := ⟨jw_1283, jw_12, by decide, by decide, by decide +kernel⟩
theorem kV_X8_insurerNow : KV iX8_insurerNow 2 := ⟨kI_X8_insurerNow, jw_1282, jp_58⟩
abbrev iX8_insurer : MI := (yX8_insurer, cX8_insurer, 3, some .int, 3, 67)
theorem kI_X8_insurer : KI iX8_insurer 2 := ⟨jw_1279, jw_12, by decide, by decide, by decide +kernel⟩
theorem kV_X8_insurer : KV iX8_insurer 2 := ⟨kI_X8_insurer, jw_1277, jw_1278⟩
abbrev iX8_owed : MI := (yX8_owed, cX8_owed, 3, some .int, 3, 67)
theorem kI_X8_owed : KI iX8_owed 2 := ⟨jw_1291, jw_12, by decide, by decide, by decide +kernel⟩
theorem kV_X8_owed : KV iX8_owed 2 := ⟨kI_X8_owed, jw_1289, jw_1290⟩
abbrev iX8_weakestAt : MI := (yX8_weakestAt, cX8_weakestAt, 6, some .int, 1, 22)
theorem kI_X8_weakestAt : KI iX8_weakestAt 1 := ⟨jw_1299, jw_12, by decide, by decide, by decide +kernel⟩
theorem kV_X8_weakestAt : KV iX8_weakestAt 1 := ⟨kI_X8_weakestAt, jw_1298, jp_60⟩
abbrev iX8_weakest : MI := (yX8_weakest, cX8_weakest, 2, some .int, 2, 47)
theorem kI_X8_weakest : KI iX8_weakest 1 := ⟨jw_1295, jw_12, by decide, by decide, by decide +kernel⟩
theorem kV_X8_weakest : KV iX8_weakest 1 := ⟨kI_X8_weakest, jw_1293, jw_1294⟩
abbrev iX8_coresWith : MI := (yX8_coresWith, cX8_coresWith, 4, some .int, 1, 22)
theorem kI_X8_coresWith : KI iX8_coresWith 1 := ⟨jw_1311, jw_12, by decide, by decide, by decide +kernel⟩
theorem kV_X8_coresWith : KV iX8_coresWith 1 := ⟨kI_X8_coresWith, jw_1310, jp_62⟩
abbrev iX8_counted : MI := (yX8_counted, cX8_counted, 2, some .int, 3, 65)
theorem kI_X8_counted : KI iX8_counted 1 := ⟨jw_1307, jw_12, by decide, by decide, by decide +kernel⟩
theorem kV_X8_counted : KV iX8_counted 1 := ⟨kI_X8_counted, jw_1306, jp_61⟩
abbrev iX8_count : MI := (yX8_count, cX8_count, 2, some .int, 4, 86)
theorem kI_X8_count : KI iX8_count 1 := ⟨jw_1303, jw_12, by decide, by decide, by decide +kernel⟩
theorem kV_X8_count : KV iX8_count 1 := ⟨kI_X8_count, jw_1301, jw_1302⟩
abbrev iX8_setting : MI := (yX8_setting, cX8_setting, 2, some .int, 1, 22)
theorem kI_X8_setting : KI iX8_setting 1 := ⟨jw_1315, jw_12, by decide, by decide, by decide +kernel⟩
theorem kV_X8_setting : KV iX8_setting 1 := ⟨kI_X8_setting, jw_1313, jw_1314⟩
abbrev iX8_premium : MI := (yX8_premium, cX8_premium, 4, some .int, 3, 69)
theorem kI_X8_premium : KI iX8_premium 3 := ⟨jw_1319, jw_12, by decide, by decide, by decide +kernel⟩
theorem kV_X8_premium : KV iX8_premium 3 := ⟨kI_X8_premium, jw_1317, jw_1318⟩
abbrev iX8_cheapestNow : MI := (yX8_cheapestNow, cX8_cheapestNow, 7, some .int, 3, 69)
theorem kI_X8_cheapestNow : KI iX8_cheapestNow 3 := ⟨jw_1327, jw_12, by decide, by decide, by decide +kernel⟩
theorem kV_X8_cheapestNow : KV iX8_cheapestNow 3 := ⟨kI_X8_cheapestNow, jw_1326, jp_63⟩
abbrev iX8_cheapest : MI := (yX8_cheapest, cX8_cheapest, 4, some .int, 4, 95)
theorem kI_X8_cheapest : KI iX8_cheapest 3 := ⟨jw_1323, jw_12, by decide, by decide, by decide +kernel⟩
theorem kV_X8_cheapest : KV iX8_cheapest 3 := ⟨kI_X8_cheapest, jw_1321, jw_1322⟩
abbrev iX8_waitNow : MI := (yX8_waitNow, cX8_waitNow, 6, some .int, 2, 46)
theorem kI_X8_waitNow : KI iX8_waitNow 4 := ⟨jw_1335, jw_12, by decide, by decide, by decide +kernel⟩
theorem kV_X8_waitNow : KV iX8_waitNow 4 := ⟨kI_X8_waitNow, jw_1334, jp_64⟩
abbrev iX8_waitFor : MI := (yX8_waitFor, cX8_waitFor, 5, some .int, 3, 71)
theorem kI_X8_waitFor : KI iX8_waitFor 4 := ⟨jw_1331, jw_12, by decide, by decide, by decide +kernel⟩
theorem kV_X8_waitFor : KV iX8_waitFor 4 := ⟨kI_X8_waitFor, jw_1329, jw_1330⟩
abbrev iX8_disturbs : MI := (yX8_disturbs, cX8_disturbs, 6, some .int, 2, 43)
theorem kI_X8_disturbs : KI iX8_disturbs 2 := ⟨jw_1347, jw_12, by decide, by decide, by decide +kernel⟩
theorem kV_X8_disturbs : KV iX8_disturbs 2 := ⟨kI_X8_disturbs, jw_1346, jp_66⟩
abbrev iX8_readNow : MI := (yX8_readNow, cX8_readNow, 3, some .int, 3, 68)
theorem kI_X8_readNow : KI iX8_readNow 2 := ⟨jw_1343, jw_12, by decide, by decide, by decide +kernel⟩
theorem kV_X8_readNow : KV iX8_readNow 2 := ⟨kI_X8_readNow, jw_1342, jp_65⟩
abbrev iX8_ifRead : MI := (yX8_ifRead, cX8_ifRead, 3, some .int, 4, 90)
theorem kI_X8_ifRead : KI iX8_ifRead 2 := ⟨jw_1339, jw_12, by decide, by decide, by decide +kernel⟩
theorem kV_X8_ifRead : KV iX8_ifRead 2 := ⟨kI_X8_ifRead, jw_1337, jw_1338⟩
abbrev iX8_isGentler : MI := (yX8_isGentler, cX8_isGentler, 5, some .boolean, 3, 68)
theorem kI_X8_isGentler : KI iX8_isGentler 2 := ⟨jw_1359, jw_12, by decide, by decide, by decide +kernel⟩
theorem kV_X8_isGentler : KV iX8_isGentler 2 := ⟨kI_X8_isGentler, jw_1358, jp_68⟩
abbrev iX8_gentlestNow : MI := (yX8_gentlestNow, cX8_gentlestNow, 4, some .int, 4, 92)
theorem kI_X8_gentlestNow : KI iX8_gentlestNow 0 := ⟨jw_1355, jw_12, by decide, by decide, by decide +kernel⟩
theorem kV_X8_gentlestNow : KV iX8_gentlestNow 0 := ⟨kI_X8_gentlestNow, jw_1354, jp_67⟩
abbrev iX8_gentlest : MI := (yX8_gentlest, cX8_gentlest, 1, some .int, 5, 115)
theorem kI_X8_gentlest : KI iX8_gentlest 0 := ⟨jw_1351, jw_12, by decide, by decide, by decide +kernel⟩
theorem kV_X8_gentlest : KV iX8_gentlest 0 := ⟨kI_X8_gentlest, jw_1349, jw_1350⟩
abbrev iX8_savableNow : MI := (yX8_savableNow, cX8_savableNow, 4, some .int, 5, 111)
theorem kI_X8_savableNow : KI iX8_savableNow 1 := ⟨jw_1367, jw_12, by decide, by decide, by decide +kernel⟩
theorem kV_X8_savableNow : KV iX8_savableNow 1 := ⟨kI_X8_savableNow, jw_1366, jp_69⟩
abbrev iX8_savable : MI := (yX8_savable, cX8_savable, 2, some .int, 6, 134)
theorem kI_X8_savable : KI iX8_savable 1 := ⟨jw_1363, jw_12, by decide, by decide, by decide +kernel⟩
theorem kV_X8_savable : KV iX8_savable 1 := ⟨kI_X8_savable, jw_1361, jw_1362⟩
abbrev iX8_riskNow : MI := (yX8_riskNow, cX8_riskNow, 5, some .int, 3, 68)
theorem kI_X8_riskNow : KI iX8_riskNow 1 := ⟨jw_1383, jw_12, by decide, by decide, by decide +kernel⟩
theorem kV_X8_riskNow : KV iX8_riskNow 1 := ⟨kI_X8_riskNow, jw_1382, jp_72⟩
abbrev iX8_atRisk : MI := (yX8_atRisk, cX8_atRisk, 2, some .int, 4, 92)
theorem kI_X8_atRisk : KI iX8_atRisk 1 := ⟨jw_1379, jw_12, by decide, by decide, by decide +kernel⟩
theorem kV_X8_atRisk : KV iX8_atRisk 1 := ⟨kI_X8_atRisk, jw_1377, jw_1378⟩
abbrev iX8_backNow : MI := (yX8_backNow, cX8_backNow, 1, some .double, 0, 0)
theorem kI_X8_backNow : KI iX8_backNow 0 := ⟨jw_1391, jw_12, by decide, by decide, by decide +kernel⟩
theorem kV_X8_backNow : KV iX8_backNow 0 := ⟨kI_X8_backNow, jw_1390, jp_73⟩
abbrev iX8_backShare : MI := (yX8_backShare, cX8_backShare, 1, some .double, 1, 20)
theorem kI_X8_backShare : KI iX8_backShare 0 := ⟨jw_1387, jw_12, by decide, by decide, by decide +kernel⟩
theorem kV_X8_backShare : KV iX8_backShare 0 := ⟨kI_X8_backShare, jw_1385, jw_1386⟩
abbrev iX8_mix : MI := (yX8_mix, cX8_mix, 3, none, 0, 0)
theorem kI_X8_mix : KI iX8_mix 1 := ⟨jw_1400, jw_12, by decide, by decide, by decide +kernel⟩
theorem kV_X8_mix : KV iX8_mix 1 := ⟨kI_X8_mix, jw_1399, jp_74⟩
abbrev iX8_mixPeople : MI := (yX8_mixPeople, cX8_mixPeople, 3, none, 4, 92)
theorem kI_X8_mixPeople : KI iX8_mixPeople 0 := ⟨jw_1405, jw_12, by decide, by decide, by decide +kernel⟩
theorem kV_X8_mixPeople : KV iX8_mixPeople 0 := ⟨kI_X8_mixPeople, jw_1404, jp_75⟩
abbrev iX8_mixAhead : MI := (yX8_mixAhead, cX8_mixAhead, 3, none, 6, 134)
theorem kI_X8_mixAhead : KI iX8_mixAhead 0 := ⟨jw_1409, jw_12, by decide, by decide, by decide +kernel⟩
theorem kV_X8_mixAhead : KV iX8_mixAhead 0 := ⟨kI_X8_mixAhead, jw_1408, jp_76⟩
abbrev iX8_digest : MI := (yX8_digest, cX8_digest, 3, some .long, 7, 156)
theorem kI_X8_digest : KI iX8_digest 0 := ⟨jw_1395, jw_12, by decide, by decide, by decide +kernel⟩
theorem kV_X8_digest : KV iX8_digest 0 := ⟨kI_X8_digest, jw_1393, jw_1394⟩
abbrev iJxe99ae_isNaN_b9ae7 : MI := (yJxe99ae_isNaN_b9ae7, cJxe99ae_isNaN_b9ae7, 2, some .boolean, 0, 0)
theorem kI_Jxe99ae_isNaN_b9ae7 : KI iJxe99ae_isNaN_b9ae7 1 := ⟨jw_1415, jw_21, by decide, by decide, by decide +kernel⟩
theorem kS_Jxe99ae_isNaN_b9ae7 : KS iJxe99ae_isNaN_b9ae7 1 := ⟨kI_Jxe99ae_isNaN_b9ae7, jw_1414⟩
abbrev iJxe99ae_doubleToLongBits_ccdee : MI := (yJxe99ae_doubleToLongBits_ccdee, cJxe99ae_doubleToLongBits_ccdee, 2, some .long, 1, 40)
theorem kI_Jxe99ae_doubleToLongBits_ccdee : KI iJxe99ae_doubleToLongBits_ccdee 1 := ⟨jw_1412, jw_21, by decide, by decide, by decide +kernel⟩
theorem kS_Jxe99ae_doubleToLongBits_ccdee : KS iJxe99ae_doubleToLongBits_ccdee 1 := ⟨kI_Jxe99ae_doubleToLongBits_ccdee, jw_1411⟩
abbrev iJ13_bitCount_95d88 : MI := (yJ13_bitCount_95d88, cJ13_bitCount_95d88, 2, some .int, 0, 0)
theorem kI_J13_bitCount_95d88 : KI iJ13_bitCount_95d88 1 := ⟨jw_325, jw_20, by decide, by decide, by decide +kernel⟩
theorem kS_J13_bitCount_95d88 : KS iJ13_bitCount_95d88 1 := ⟨kI_J13_bitCount_95d88, jw_324⟩
abbrev iJ9_max_7cf53 : MI := (yJ9_max_7cf53, cJ9_max_7cf53, 2, some .int, 0, 0)
theorem kI_J9_max_7cf53 : KI iJ9_max_7cf53 2 := ⟨jw_528, jw_8, by decide, by decide, by decide +kernel⟩
theorem kS_J9_max_7cf53 : KS iJ9_max_7cf53 2 := ⟨kI_J9_max_7cf53, jw_527⟩
abbrev iJ9_min_7cf53 : MI := (yJ9_min_7cf53, cJ9_min_7cf53, 2, some .int, 0, 0)
theorem kI_J9_min_7cf53 : KI iJ9_min_7cf53 2 := ⟨jw_168, jw_8, by decide, by decide, by decide +kernel⟩
theorem kS_J9_min_7cf53 : KS iJ9_min_7cf53 2 := ⟨kI_J9_min_7cf53, jw_167⟩
abbrev iJ7_fill_53178 : MI := (yJ7_fill_53178, cJ7_fill_53178, 4, none, 0, 0)
theorem kI_J7_fill_53178 : KI iJ7_fill_53178 2 := ⟨jw_44, jw_4, by decide, by decide, by decide +kernel⟩
theorem kS_J7_fill_53178 : KS iJ7_fill_53178 2 := ⟨kI_J7_fill_53178, jw_43⟩
abbrev iL_addTenant : MI := (yL_addTenant, cL_addTenant, 4, some .int, 9, 166)
abbrev iL_addInsurer : MI := (yL_addInsurer, cL_addInsurer, 6, some .int, 9, 168)
abbrev iL_set : MI := (yL_set, cL_set, 5, some .int, 9, 168)
abbrev iL_lease : MI := (yL_lease, cL_lease, 6, some .int, 9, 168)
abbrev iL_insure : MI := (yL_insure, cL_insure, 6, some .int, 9, 170)
abbrev iL_renew : MI := (yL_renew, cL_renew, 4, some .int, 9, 167)
abbrev iL_write : MI := (yL_write, cL_write, 5, some .int, 9, 167)
abbrev iL_read : MI := (yL_read, cL_read, 4, some .int, 9, 166)
abbrev iL_writeBack : MI := (yL_writeBack, cL_writeBack, 3, some .int, 9, 165)
abbrev iL_pass : MI := (yL_pass, cL_pass, 4, some .int, 9, 166)
abbrev iL_append : MI := (yL_append, cL_append, 4, some .int, 9, 146)
abbrev iL_run : MI := (yL_run, cL_run, 4, some .int, 9, 177)
abbrev iL_undo : MI := (yL_undo, cL_undo, 3, some .int, 9, 165)
abbrev iL_core : MI := (yL_core, cL_core, 5, some .int, 9, 147)
abbrev iL_tenant : MI := (yL_tenant, cL_tenant, 5, some .int, 9, 148)
abbrev iL_insurer : MI := (yL_insurer, cL_insurer, 5, some .int, 9, 148)
abbrev iL_owed : MI := (yL_owed, cL_owed, 5, some .int, 9, 148)
abbrev iL_weakest : MI := (yL_weakest, cL_weakest, 4, some .int, 9, 148)
abbrev iL_count : MI := (yL_count, cL_count, 4, some .int, 9, 146)
abbrev iL_setting : MI := (yL_setting, cL_setting, 4, some .int, 9, 146)
abbrev iL_premium : MI := (yL_premium, cL_premium, 6, some .int, 9, 149)
abbrev iL_cheapest : MI := (yL_cheapest, cL_cheapest, 6, some .int, 9, 152)
abbrev iL_waitFor : MI := (yL_waitFor, cL_waitFor, 7, some .int, 9, 152)
abbrev iL_ifRead : MI := (yL_ifRead, cL_ifRead, 5, some .int, 9, 147)
abbrev iL_savable : MI := (yL_savable, cL_savable, 4, some .int, 9, 154)
abbrev iL_atRisk : MI := (yL_atRisk, cL_atRisk, 4, some .int, 9, 151)
/-! the cells -/
def plS (q : Nat) : List SH := [.inl (3, [.inl 0, .inl 0, .inl 0, .inr (q + 1), .inr (q + 2), .inr (q + 3), .inr (q + 10), .inr (q + 13), .inr (q + 17), .inr (q + 23), .inl 0]), .inr (0, 8), .inr (0, 19),
  .inl (0, [.inl 1, .inr (q + 4), .inr (q + 5), .inr (q + 6), .inr (q + 7), .inr (q + 8), .inr (q + 9)]), .inr (0, 64), .inr (0, 64), .inr (0, 64), .inr (0, 64), .inr (0, 64), .inr (0, 64),
  .inl (1, [.inl 0, .inr (q + 11), .inr (q + 12)]), .inr (0, 64), .inr (0, 64), .inl (5, [.inl 0, .inr (q + 14), .inr (q + 15), .inr (q + 16)]), .inr (0, 6), .inr (0, 6), .inr (0, 6),
  .inl (2, [.inl 0, .inr (q + 18), .inr (q + 19), .inr (q + 20), .inr (q + 21), .inr (q + 22)]), .inr (0, 3), .inr (0, 3), .inr (0, 3), .inr (0, 3), .inr (0, 3), .inr (0, 512)]
def SHP : List SH := .inl (7, [.inr 1, .inr 25, .inr 49, .inr 195]) :: (plS 1 ++ (plS 25 ++ (.inl (4, [.inl 0, .inr 50]) :: .inr (2, 6) :: (plS 51 ++ (plS 75 ++ (plS 99 ++ (plS 123 ++ (plS 147 ++ (plS 171 ++
  [.inl (6, [.inl 0, .inr 196]), .inr (0, 60), .inl (8, [.inr 198, .inr 199, .inr 200, .inr 201, .inr 202, .inr 203, .inr 204, .inr 205, .inl 0, .inl 0, .inl 0, .inl 0, .inl 0, .inl 1]), .inr (0, 2195), .inr (0, 2195), .inr (0, 13170), .inr (0, 60), .inr (0, 32), .inr (0, 32), .inr (0, 32), .inr (0, 64), .inr (1, 1)])))))))))
def PA (q : Nat) : Prop := ∀ (i : Nat) (x : SH), (plS q)[i]? = some x → SHP[q + i]? = some x
theorem PA_of {q : Nat} (h : (List.range 24).map (fun i => SHP[q + i]?) = (plS q).map some) : PA q := by
  intro i x hx
  have hi : i < 24 := (List.getElem?_eq_some_iff.mp hx).1
  have := congrArg (fun l : List (Option SH) => l[i]?) h
  simp only [List.getElem?_map, List.getElem?_range hi, hx, Option.map_some] at this
  exact Option.some.inj this
theorem PA1 : PA 1 := PA_of rfl
theorem PA25 : PA 25 := PA_of rfl
theorem PA51 : PA 51 := PA_of rfl
theorem PA75 : PA 75 := PA_of rfl
theorem PA99 : PA 99 := PA_of rfl
theorem PA123 : PA 123 := PA_of rfl
theorem PA147 : PA 147 := PA_of rfl
theorem PA171 : PA 171 := PA_of rfl
theorem sh_0 : SHP[0]? = some (.inl (7, [.inr 1, .inr 25, .inr 49, .inr 195])) := rfl
theorem sh_1 : SHP[1]? = some (.inl (3, [.inl 0, .inl 0, .inl 0, .inr 2, .inr 3, .inr 4, .inr 11, .inr 14, .inr 18, .inr 24, .inl 0])) := rfl
theorem sh_2 : SHP[2]? = some (.inr (0, 8)) := rfl
theorem sh_3 : SHP[3]? = some (.inr (0, 19)) := rfl
theorem sh_4 : SHP[4]? = some (.inl (0, [.inl 1, .inr 5, .inr 6, .inr 7, .inr 8, .inr 9, .inr 10])) := rfl
theorem sh_5 : SHP[5]? = some (.inr (0, 64)) := rfl
theorem sh_6 : SHP[6]? = some (.inr (0, 64)) := rfl
theorem sh_7 : SHP[7]? = some (.inr (0, 64)) := rfl
theorem sh_8 : SHP[8]? = some (.inr (0, 64)) := rfl
theorem sh_9 : SHP[9]? = some (.inr (0, 64)) := rfl
theorem sh_10 : SHP[10]? = some (.inr (0, 64)) := rfl
theorem sh_11 : SHP[11]? = some (.inl (1, [.inl 0, .inr 12, .inr 13])) := rfl
theorem sh_12 : SHP[12]? = some (.inr (0, 64)) := rfl
theorem sh_13 : SHP[13]? = some (.inr (0, 64)) := rfl
theorem sh_14 : SHP[14]? = some (.inl (5, [.inl 0, .inr 15, .inr 16, .inr 17])) := rfl
theorem sh_15 : SHP[15]? = some (.inr (0, 6)) := rfl
theorem sh_16 : SHP[16]? = some (.inr (0, 6)) := rfl
theorem sh_17 : SHP[17]? = some (.inr (0, 6)) := rfl
theorem sh_18 : SHP[18]? = some (.inl (2, [.inl 0, .inr 19, .inr 20, .inr 21, .inr 22, .inr 23])) := rfl
theorem sh_19 : SHP[19]? = some (.inr (0, 3)) := rfl
theorem sh_20 : SHP[20]? = some (.inr (0, 3)) := rfl
theorem sh_21 : SHP[21]? = some (.inr (0, 3)) := rfl
theorem sh_22 : SHP[22]? = some (.inr (0, 3)) := rfl
theorem sh_23 : SHP[23]? = some (.inr (0, 3)) := rfl
theorem sh_24 : SHP[24]? = some (.inr (0, 512)) := rfl
theorem sh_25 : SHP[25]? = some (.inl (3, [.inl 0, .inl 0, .inl 0, .inr 26, .inr 27, .inr 28, .inr 35, .inr 38, .inr 42, .inr 48, .inl 0])) := rfl
theorem sh_26 : SHP[26]? = some (.inr (0, 8)) := rfl
theorem sh_27 : SHP[27]? = some (.inr (0, 19)) := rfl
theorem sh_28 : SHP[28]? = some (.inl (0, [.inl 1, .inr 29, .inr 30, .inr 31, .inr 32, .inr 33, .inr 34])) := rfl
theorem sh_29 : SHP[29]? = some (.inr (0, 64)) := rfl
theorem sh_30 : SHP[30]? = some (.inr (0, 64)) := rfl
theorem sh_31 : SHP[31]? = some (.inr (0, 64)) := rfl
theorem sh_32 : SHP[32]? = some (.inr (0, 64)) := rfl
theorem sh_33 : SHP[33]? = some (.inr (0, 64)) := rfl
theorem sh_34 : SHP[34]? = some (.inr (0, 64)) := rfl
theorem sh_35 : SHP[35]? = some (.inl (1, [.inl 0, .inr 36, .inr 37])) := rfl
theorem sh_36 : SHP[36]? = some (.inr (0, 64)) := rfl
theorem sh_37 : SHP[37]? = some (.inr (0, 64)) := rfl
theorem sh_38 : SHP[38]? = some (.inl (5, [.inl 0, .inr 39, .inr 40, .inr 41])) := rfl
theorem sh_39 : SHP[39]? = some (.inr (0, 6)) := rfl
theorem sh_40 : SHP[40]? = some (.inr (0, 6)) := rfl
theorem sh_41 : SHP[41]? = some (.inr (0, 6)) := rfl
theorem sh_42 : SHP[42]? = some (.inl (2, [.inl 0, .inr 43, .inr 44, .inr 45, .inr 46, .inr 47])) := rfl
theorem sh_43 : SHP[43]? = some (.inr (0, 3)) := rfl
theorem sh_44 : SHP[44]? = some (.inr (0, 3)) := rfl
theorem sh_45 : SHP[45]? = some (.inr (0, 3)) := rfl
theorem sh_46 : SHP[46]? = some (.inr (0, 3)) := rfl
theorem sh_47 : SHP[47]? = some (.inr (0, 3)) := rfl
theorem sh_48 : SHP[48]? = some (.inr (0, 512)) := rfl
theorem sh_49 : SHP[49]? = some (.inl (4, [.inl 0, .inr 50])) := rfl
theorem sh_50 : SHP[50]? = some (.inr (2, 6)) := rfl
theorem sh_195 : SHP[195]? = some (.inl (6, [.inl 0, .inr 196])) := rfl
theorem sh_196 : SHP[196]? = some (.inr (0, 60)) := rfl
theorem sh_197 : SHP[197]? = some (.inl (8, [.inr 198, .inr 199, .inr 200, .inr 201, .inr 202, .inr 203, .inr 204, .inr 205, .inl 0, .inl 0, .inl 0, .inl 0, .inl 0, .inl 1])) := rfl
theorem sh_198 : SHP[198]? = some (.inr (0, 2195)) := rfl
theorem sh_199 : SHP[199]? = some (.inr (0, 2195)) := rfl
theorem sh_200 : SHP[200]? = some (.inr (0, 13170)) := rfl
theorem sh_201 : SHP[201]? = some (.inr (0, 60)) := rfl
theorem sh_202 : SHP[202]? = some (.inr (0, 32)) := rfl
theorem sh_203 : SHP[203]? = some (.inr (0, 32)) := rfl
theorem sh_204 : SHP[204]? = some (.inr (0, 32)) := rfl
theorem sh_205 : SHP[205]? = some (.inr (0, 64)) := rfl
theorem sh_206 : SHP[206]? = some (.inr (1, 1)) := rfl
/-- what holds of the world: addresses apart, the launch's flags -/
def EV (G : GX) : Prop := jAp G SHP.length ∧ (gL G).flags = flags0
/-! the model's cell 198 -/
abbrev Z : Type := Int → Int
def sz (m : Mem) (z : Z) : Mem := fun k => if k = 198 then z else m k
def u1 (z : Z) (i v : Int) : Z := fun j => if j = i then v else z j
theorem sz_at {m : Mem} {z : Z} : sz m z 198 = z := rfl
theorem sz_ne {m : Mem} {z : Z} {c : Nat} (h : ¬ c = 198) : sz m z c = m c := if_neg h
theorem sz_sz {m : Mem} {z z' : Z} : sz (sz m z) z' = sz m z' := by
  funext k
  unfold sz
  by_cases h : k = 198
  · simp [h]
  · simp [h]
theorem sz_self {m : Mem} : sz m (m 198) = m := by
  funext k
  unfold sz
  by_cases h : k = 198
  · simp [h]
  · simp [h]
theorem up_sz {m : Mem} {z : Z} {i v : Int} : up (sz m z) 198 i v = sz m (u1 z i v) := by
  funext k j
  unfold up sz u1
  by_cases h : k = 198
  · subst h
    by_cases h2 : j = i <;> simp [h2]
  · simp [h]
theorem up_szn {m : Mem} {z : Z} {c : Nat} {i v : Int} (h : ¬ c = 198) : up (sz m z) c i v = sz (up m c i v) z := by
  funext k j
  unfold up sz
  by_cases h1 : k = 198
  · subst h1
    have : ¬ 198 = c := fun z => h z.symm
    simp [this]
  · simp [h1]
theorem u1_at {z : Z} {i v : Int} : u1 z i v i = v := if_pos rfl
theorem u1_ne {z : Z} {i j v : Int} (h : ¬ j = i) : u1 z i v j = z j := if_neg h
theorem wr_id' {x : Int} (h1 : -2147483648 ≤ x) (h2 : x < 2147483648) : wr x = x := wr_id ⟨h1, h2⟩
theorem bI_t {p : Prop} {h0 : Decidable p} (h : p) : 1 = bI (decide p) := by simp [bI, h]
theorem bI_f {p : Prop} {h0 : Decidable p} (h : ¬ p) : 0 = bI (decide p) := by simp [bI, h]
section
variable {G : GX} {M : MI} {mc ms : Nat} {F : FinT} {pc : Nat} {L : List (Option PV)} {S : List PV} {m : Mem} {z : Z} {k n : Nat}
theorem j_zload {q : Nat} {i i' : Int} (hd : decode (mB M) pc = .ok (.iaload, 1)) (hq : pc + 1 = q) (hi : wr i = i') (h0 : 0 ≤ i') (h1 : i' < 2195) (kk : J G SHP M mc ms F q L (.inl (z i') :: S) (sz m z) k n) : J G SHP M mc ms F pc L (.inl i :: .inr (.ref 198) :: S) (sz m z) k n :=
  j_iaload hd hq sh_198 hi h0 h1 kk
theorem j_zstore {q : Nat} {i i' v : Int} (hd : decode (mB M) pc = .ok (.iastore, 1)) (hq : pc + 1 = q) (hi : wr i = i') (h0 : 0 ≤ i') (h1 : i' < 2195) (kk : J G SHP M mc ms F q L S (sz m (u1 z i' v)) k n) : J G SHP M mc ms F pc L (.inl v :: .inl i :: .inr (.ref 198) :: S) (sz m z) k n :=
  j_iastore hd hq sh_198 hi h0 h1 (by rw [up_sz]; exact kk)
theorem j_nload {c n0 q : Nat} {i i' : Int} (hc : ¬ c = 198) (hd : decode (mB M) pc = .ok (.iaload, 1)) (hq : pc + 1 = q) (hs : SHP[c]? = some (.inr (0, n0))) (hi : wr i = i') (h0 : 0 ≤ i') (h1 : i' < n0) (kk : J G SHP M mc ms F q L (.inl (m c i') :: S) (sz m z) k n) : J G SHP M mc ms F pc L (.inl i :: .inr (.ref c) :: S) (sz m z) k n :=
  j_iaload hd hq hs hi h0 h1 (by rw [sz_ne hc]; exact kk)
theorem j_nstore {c n0 q : Nat} {i i' v : Int} (hc : ¬ c = 198) (hd : decode (mB M) pc = .ok (.iastore, 1)) (hq : pc + 1 = q) (hs : SHP[c]? = some (.inr (0, n0))) (hi : wr i = i') (h0 : 0 ≤ i') (h1 : i' < n0) (kk : J G SHP M mc ms F q L S (sz (up m c i' v) z) k n) : J G SHP M mc ms F pc L (.inl v :: .inl i :: .inr (.ref c) :: S) (sz m z) k n :=
  j_iastore hd hq hs hi h0 h1 (by rw [up_szn hc]; exact kk)
theorem j_ngetI {c ci idx q : Nat} (hc : ¬ c = 198) (j : Nat) {j' : Int} {ks : List (Nat ⊕ Nat)} (hd : decode (mB M) pc = .ok (.getfield idx, 3)) (hq : pc + 3 = q) (hf : FL (mY M).cls idx ci j) (hs : SHP[c]? = some (.inl (ci, ks))) (hk : ks[j]? = some (.inl 0)) (hj : (j : Int) = j') (kk : J G SHP M mc ms F q L (.inl (m c j') :: S) (sz m z) k n) : J G SHP M mc ms F pc L (.inr (.ref c) :: S) (sz m z) k n :=
  j_getI j hd hq hf hs hk hj (by rw [sz_ne hc]; exact kk)
theorem j_nputI {c ci idx q : Nat} {v : Int} (hc : ¬ c = 198) (j : Nat) {j' : Int} {ks : List (Nat ⊕ Nat)} (hd : decode (mB M) pc = .ok (.putfield idx, 3)) (hq : pc + 3 = q) (hf : FW (mY M).cls idx ci j .int) (hs : SHP[c]? = some (.inl (ci, ks))) (hk : ks[j]? = some (.inl 0)) (hj : (j : Int) = j') (kk : J G SHP M mc ms F q L S (sz (up m c j' v) z) k n) : J G SHP M mc ms F pc L (.inl v :: .inr (.ref c) :: S) (sz m z) k n :=
  j_putI j hd hq hf hs hk hj (by rw [up_szn hc]; exact kk)
theorem j_ngetL {c ci idx q : Nat} (hc : ¬ c = 198) (j : Nat) {j' : Int} {ks : List (Nat ⊕ Nat)} (hd : decode (mB M) pc = .ok (.getfield idx, 3)) (hq : pc + 3 = q) (hf : FL (mY M).cls idx ci j) (hs : SHP[c]? = some (.inl (ci, ks))) (hk : ks[j]? = some (.inl 1)) (hj : (j : Int) = j') (kk : J G SHP M mc ms F q L (.inr (.long (lo (m c j'))) :: S) (sz m z) k n) : J G SHP M mc ms F pc L (.inr (.ref c) :: S) (sz m z) k n :=
  j_getL j hd hq hf hs hk hj (by rw [sz_ne hc]; exact kk)
theorem j_nputL {c ci idx q : Nat} {v : Int64} (hc : ¬ c = 198) (j : Nat) {j' : Int} {ks : List (Nat ⊕ Nat)} (hd : decode (mB M) pc = .ok (.putfield idx, 3)) (hq : pc + 3 = q) (hf : FW (mY M).cls idx ci j .long) (hs : SHP[c]? = some (.inl (ci, ks))) (hk : ks[j]? = some (.inl 1)) (hj : (j : Int) = j') (kk : J G SHP M mc ms F q L S (sz (up m c j' v.toInt) z) k n) : J G SHP M mc ms F pc L (.inr (.long v) :: .inr (.ref c) :: S) (sz m z) k n :=
  j_putL j hd hq hf hs hk hj (by rw [up_szn hc]; exact kk)
end
theorem fl_X7_10 : FL RX7 10 7 0 := ⟨RX7, TX7, 4, tyX7, cf_7, by decide, jw_246⟩
theorem fl_X7_16 : FL RX7 16 7 1 := ⟨RX7, TX7, 4, tyX7, cf_7, by decide, jw_247⟩
theorem fl_X7_22 : FL RX7 22 7 2 := ⟨RX7, TX7, 4, tyX7, cf_7, by decide, jw_248⟩
theorem fl_X7_29 : FL RX7 29 7 3 := ⟨RX7, TX7, 4, tyX7, cf_7, by decide, jw_249⟩
theorem fl_X7_41 : FL RX7 41 3 7 := ⟨RX3, TX3, 11, tyX3, cf_3, by decide, jw_187⟩
theorem fl_X7_45 : FL RX7 45 5 0 := ⟨RX5, TX5, 4, tyX5, cf_5, by decide, jw_106⟩
theorem fw_X7_45 : FW RX7 45 5 0 .int := ⟨RX5, TX5, 4, tyX5, cf_5, by decide, jw_106, rfl, by decide +kernel⟩
theorem fl_X7_62 : FL RX7 62 3 8 := ⟨RX3, TX3, 11, tyX3, cf_3, by decide, jw_189⟩
theorem fl_X7_66 : FL RX7 66 2 0 := ⟨RX2, TX2, 6, tyX2, cf_2, by decide, jw_132⟩
theorem fw_X7_66 : FW RX7 66 2 0 .int := ⟨RX2, TX2, 6, tyX2, cf_2, by decide, jw_132, rfl, by decide +kernel⟩
theorem fl_X7_80 : FL RX7 80 3 3 := ⟨RX3, TX3, 11, tyX3, cf_3, by decide, jw_179⟩
theorem fl_X7_89 : FL RX7 89 3 5 := ⟨RX3, TX3, 11, tyX3, cf_3, by decide, jw_183⟩
theorem fl_X7_99 : FL RX7 99 5 1 := ⟨RX5, TX5, 4, tyX5, cf_5, by decide, jw_108⟩
theorem fl_X7_112 : FL RX7 112 0 2 := ⟨RX0, TX0, 7, tyX0, cf_0, by decide, jw_51⟩
theorem fl_X7_124 : FL RX7 124 3 1 := ⟨RX3, TX3, 11, tyX3, cf_3, by decide, jw_175⟩
theorem fw_X7_124 : FW RX7 124 3 1 .int := ⟨RX3, TX3, 11, tyX3, cf_3, by decide, jw_175, rfl, by decide +kernel⟩
theorem fl_X7_135 : FL RX7 135 3 2 := ⟨RX3, TX3, 11, tyX3, cf_3, by decide, jw_177⟩
theorem fw_X7_135 : FW RX7 135 3 2 .int := ⟨RX3, TX3, 11, tyX3, cf_3, by decide, jw_177, rfl, by decide +kernel⟩
theorem fl_X7_138 : FL RX7 138 0 1 := ⟨RX0, TX0, 7, tyX0, cf_0, by decide, jw_49⟩
theorem fl_X7_157 : FL RX7 157 3 6 := ⟨RX3, TX3, 11, tyX3, cf_3, by decide, jw_185⟩
theorem fl_X7_161 : FL RX7 161 1 0 := ⟨RX1, TX1, 3, tyX1, cf_1, by decide, jw_87⟩
theorem fw_X7_161 : FW RX7 161 1 0 .int := ⟨RX1, TX1, 3, tyX1, cf_1, by decide, jw_87, rfl, by decide +kernel⟩
theorem fl_X7_168 : FL RX7 168 3 0 := ⟨RX3, TX3, 11, tyX3, cf_3, by decide, jw_173⟩
theorem fw_X7_168 : FW RX7 168 3 0 .int := ⟨RX3, TX3, 11, tyX3, cf_3, by decide, jw_173, rfl, by decide +kernel⟩
theorem fl_X7_174 : FL RX7 174 6 0 := ⟨RX6, TX6, 2, tyX6, cf_6, by decide, jw_239⟩
theorem fw_X7_174 : FW RX7 174 6 0 .int := ⟨RX6, TX6, 2, tyX6, cf_6, by decide, jw_239, rfl, by decide +kernel⟩
theorem fl_X7_197 : FL RX7 197 4 0 := ⟨RX4, TX4, 2, tyX4, cf_4, by decide, jw_225⟩
theorem fw_X7_197 : FW RX7 197 4 0 .int := ⟨RX4, TX4, 2, tyX4, cf_4, by decide, jw_225, rfl, by decide +kernel⟩
theorem fl_X7_201 : FL RX7 201 0 4 := ⟨RX0, TX0, 7, tyX0, cf_0, by decide, jw_57⟩
theorem fl_X7_210 : FL RX7 210 1 2 := ⟨RX1, TX1, 3, tyX1, cf_1, by decide, jw_91⟩
theorem fl_X7_213 : FL RX7 213 0 6 := ⟨RX0, TX0, 7, tyX0, cf_0, by decide, jw_62⟩
theorem fl_X7_222 : FL RX7 222 5 2 := ⟨RX5, TX5, 4, tyX5, cf_5, by decide, jw_112⟩
theorem fl_X7_223 : FL RX7 223 5 3 := ⟨RX5, TX5, 4, tyX5, cf_5, by decide, jw_115⟩
theorem fl_X7_229 : FL RX7 229 2 1 := ⟨RX2, TX2, 6, tyX2, cf_2, by decide, jw_135⟩
theorem fl_X7_232 : FL RX7 232 2 2 := ⟨RX2, TX2, 6, tyX2, cf_2, by decide, jw_138⟩
theorem fl_X7_235 : FL RX7 235 2 3 := ⟨RX2, TX2, 6, tyX2, cf_2, by decide, jw_141⟩
theorem fl_X7_241 : FL RX7 241 2 5 := ⟨RX2, TX2, 6, tyX2, cf_2, by decide, jw_147⟩
theorem fl_X7_247 : FL RX7 247 2 4 := ⟨RX2, TX2, 6, tyX2, cf_2, by decide, jw_144⟩
theorem fl_X7_250 : FL RX7 250 1 1 := ⟨RX1, TX1, 3, tyX1, cf_1, by decide, jw_89⟩
theorem fl_X7_265 : FL RX7 265 0 0 := ⟨RX0, TX0, 7, tyX0, cf_0, by decide, jw_46⟩
theorem fw_X7_265 : FW RX7 265 0 0 .long := ⟨RX0, TX0, 7, tyX0, cf_0, by decide, jw_46, rfl, by decide +kernel⟩
theorem fl_X7_275 : FL RX7 275 3 4 := ⟨RX3, TX3, 11, tyX3, cf_3, by decide, jw_181⟩
theorem fl_X0_9 : FL RX0 9 0 0 := ⟨RX0, TX0, 7, tyX0, cf_0, by decide, jw_45⟩
theorem fw_X0_9 : FW RX0 9 0 0 .long := ⟨RX0, TX0, 7, tyX0, cf_0, by decide, jw_45, rfl, by decide +kernel⟩
theorem fl_X0_15 : FL RX0 15 0 1 := ⟨RX0, TX0, 7, tyX0, cf_0, by decide, jw_47⟩
theorem fl_X0_19 : FL RX0 19 0 2 := ⟨RX0, TX0, 7, tyX0, cf_0, by decide, jw_50⟩
theorem fl_X0_22 : FL RX0 22 0 3 := ⟨RX0, TX0, 7, tyX0, cf_0, by decide, jw_53⟩
theorem fl_X0_25 : FL RX0 25 0 4 := ⟨RX0, TX0, 7, tyX0, cf_0, by decide, jw_55⟩
theorem fl_X0_28 : FL RX0 28 0 5 := ⟨RX0, TX0, 7, tyX0, cf_0, by decide, jw_58⟩
theorem fl_X0_31 : FL RX0 31 0 6 := ⟨RX0, TX0, 7, tyX0, cf_0, by decide, jw_60⟩
theorem fl_X1_9 : FL RX1 9 1 0 := ⟨RX1, TX1, 3, tyX1, cf_1, by decide, jw_86⟩
theorem fw_X1_9 : FW RX1 9 1 0 .int := ⟨RX1, TX1, 3, tyX1, cf_1, by decide, jw_86, rfl, by decide +kernel⟩
theorem fl_X1_15 : FL RX1 15 1 1 := ⟨RX1, TX1, 3, tyX1, cf_1, by decide, jw_88⟩
theorem fl_X1_19 : FL RX1 19 1 2 := ⟨RX1, TX1, 3, tyX1, cf_1, by decide, jw_90⟩
theorem fl_X2_9 : FL RX2 9 2 0 := ⟨RX2, TX2, 6, tyX2, cf_2, by decide, jw_131⟩
theorem fw_X2_9 : FW RX2 9 2 0 .int := ⟨RX2, TX2, 6, tyX2, cf_2, by decide, jw_131, rfl, by decide +kernel⟩
theorem fl_X2_15 : FL RX2 15 2 1 := ⟨RX2, TX2, 6, tyX2, cf_2, by decide, jw_133⟩
theorem fl_X2_19 : FL RX2 19 2 2 := ⟨RX2, TX2, 6, tyX2, cf_2, by decide, jw_136⟩
theorem fl_X2_22 : FL RX2 22 2 3 := ⟨RX2, TX2, 6, tyX2, cf_2, by decide, jw_139⟩
theorem fl_X2_25 : FL RX2 25 2 4 := ⟨RX2, TX2, 6, tyX2, cf_2, by decide, jw_142⟩
theorem fl_X2_28 : FL RX2 28 2 5 := ⟨RX2, TX2, 6, tyX2, cf_2, by decide, jw_145⟩
theorem fl_X3_9 : FL RX3 9 3 0 := ⟨RX3, TX3, 11, tyX3, cf_3, by decide, jw_172⟩
theorem fw_X3_9 : FW RX3 9 3 0 .int := ⟨RX3, TX3, 11, tyX3, cf_3, by decide, jw_172, rfl, by decide +kernel⟩
theorem fl_X3_15 : FL RX3 15 3 1 := ⟨RX3, TX3, 11, tyX3, cf_3, by decide, jw_174⟩
theorem fw_X3_15 : FW RX3 15 3 1 .int := ⟨RX3, TX3, 11, tyX3, cf_3, by decide, jw_174, rfl, by decide +kernel⟩
theorem fl_X3_18 : FL RX3 18 3 2 := ⟨RX3, TX3, 11, tyX3, cf_3, by decide, jw_176⟩
theorem fw_X3_18 : FW RX3 18 3 2 .int := ⟨RX3, TX3, 11, tyX3, cf_3, by decide, jw_176, rfl, by decide +kernel⟩
theorem fl_X3_21 : FL RX3 21 3 3 := ⟨RX3, TX3, 11, tyX3, cf_3, by decide, jw_178⟩
theorem fl_X3_25 : FL RX3 25 3 4 := ⟨RX3, TX3, 11, tyX3, cf_3, by decide, jw_180⟩
theorem fl_X3_31 : FL RX3 31 3 5 := ⟨RX3, TX3, 11, tyX3, cf_3, by decide, jw_182⟩
theorem fl_X3_38 : FL RX3 38 3 6 := ⟨RX3, TX3, 11, tyX3, cf_3, by decide, jw_184⟩
theorem fl_X3_45 : FL RX3 45 3 7 := ⟨RX3, TX3, 11, tyX3, cf_3, by decide, jw_186⟩
theorem fl_X3_52 : FL RX3 52 3 8 := ⟨RX3, TX3, 11, tyX3, cf_3, by decide, jw_188⟩
theorem fl_X3_56 : FL RX3 56 3 9 := ⟨RX3, TX3, 11, tyX3, cf_3, by decide, jw_190⟩
theorem fl_X3_59 : FL RX3 59 3 10 := ⟨RX3, TX3, 11, tyX3, cf_3, by decide, jw_191⟩
theorem fw_X3_59 : FW RX3 59 3 10 .int := ⟨RX3, TX3, 11, tyX3, cf_3, by decide, jw_191, rfl, by decide +kernel⟩
theorem fl_X3_86 : FL RX3 86 0 3 := ⟨RX0, TX0, 7, tyX0, cf_0, by decide, jw_54⟩
theorem fl_X3_92 : FL RX3 92 0 5 := ⟨RX0, TX0, 7, tyX0, cf_0, by decide, jw_59⟩
theorem fl_X3_99 : FL RX3 99 5 1 := ⟨RX5, TX5, 4, tyX5, cf_5, by decide, jw_109⟩
theorem fl_X3_102 : FL RX3 102 0 2 := ⟨RX0, TX0, 7, tyX0, cf_0, by decide, jw_52⟩
theorem fl_X3_105 : FL RX3 105 0 1 := ⟨RX0, TX0, 7, tyX0, cf_0, by decide, jw_48⟩
theorem fl_X3_108 : FL RX3 108 2 2 := ⟨RX2, TX2, 6, tyX2, cf_2, by decide, jw_137⟩
theorem fl_X3_111 : FL RX3 111 2 1 := ⟨RX2, TX2, 6, tyX2, cf_2, by decide, jw_134⟩
theorem fl_X3_114 : FL RX3 114 2 4 := ⟨RX2, TX2, 6, tyX2, cf_2, by decide, jw_143⟩
theorem fl_X3_117 : FL RX3 117 0 4 := ⟨RX0, TX0, 7, tyX0, cf_0, by decide, jw_56⟩
theorem fl_X3_128 : FL RX3 128 0 6 := ⟨RX0, TX0, 7, tyX0, cf_0, by decide, jw_61⟩
theorem fl_X3_134 : FL RX3 134 5 2 := ⟨RX5, TX5, 4, tyX5, cf_5, by decide, jw_111⟩
theorem fl_X3_143 : FL RX3 143 2 3 := ⟨RX2, TX2, 6, tyX2, cf_2, by decide, jw_140⟩
theorem fl_X3_146 : FL RX3 146 2 5 := ⟨RX2, TX2, 6, tyX2, cf_2, by decide, jw_146⟩
theorem fl_X3_149 : FL RX3 149 5 3 := ⟨RX5, TX5, 4, tyX5, cf_5, by decide, jw_114⟩
theorem fl_X4_9 : FL RX4 9 4 0 := ⟨RX4, TX4, 2, tyX4, cf_4, by decide, jw_224⟩
theorem fw_X4_9 : FW RX4 9 4 0 .int := ⟨RX4, TX4, 2, tyX4, cf_4, by decide, jw_224, rfl, by decide +kernel⟩
theorem fl_X4_17 : FL RX4 17 4 1 := ⟨RX4, TX4, 2, tyX4, cf_4, by decide, jw_226⟩
theorem fl_X5_9 : FL RX5 9 5 0 := ⟨RX5, TX5, 4, tyX5, cf_5, by decide, jw_105⟩
theorem fw_X5_9 : FW RX5 9 5 0 .int := ⟨RX5, TX5, 4, tyX5, cf_5, by decide, jw_105, rfl, by decide +kernel⟩
theorem fl_X5_15 : FL RX5 15 5 1 := ⟨RX5, TX5, 4, tyX5, cf_5, by decide, jw_107⟩
theorem fl_X5_19 : FL RX5 19 5 2 := ⟨RX5, TX5, 4, tyX5, cf_5, by decide, jw_110⟩
theorem fl_X5_22 : FL RX5 22 5 3 := ⟨RX5, TX5, 4, tyX5, cf_5, by decide, jw_113⟩
theorem fl_X6_9 : FL RX6 9 6 0 := ⟨RX6, TX6, 2, tyX6, cf_6, by decide, jw_238⟩
theorem fw_X6_9 : FW RX6 9 6 0 .int := ⟨RX6, TX6, 2, tyX6, cf_6, by decide, jw_238, rfl, by decide +kernel⟩
theorem fl_X6_15 : FL RX6 15 6 1 := ⟨RX6, TX6, 2, tyX6, cf_6, by decide, jw_240⟩
theorem fl_X8_7 : FL RX8 7 8 0 := ⟨RX8, TX8, 14, tyX8, cf_8, by decide, jw_984⟩
theorem fl_X8_13 : FL RX8 13 8 1 := ⟨RX8, TX8, 14, tyX8, cf_8, by decide, jw_985⟩
theorem fl_X8_16 : FL RX8 16 8 2 := ⟨RX8, TX8, 14, tyX8, cf_8, by decide, jw_986⟩
theorem fl_X8_19 : FL RX8 19 8 3 := ⟨RX8, TX8, 14, tyX8, cf_8, by decide, jw_987⟩
theorem fl_X8_22 : FL RX8 22 8 4 := ⟨RX8, TX8, 14, tyX8, cf_8, by decide, jw_988⟩
theorem fl_X8_25 : FL RX8 25 8 5 := ⟨RX8, TX8, 14, tyX8, cf_8, by decide, jw_989⟩
theorem fl_X8_28 : FL RX8 28 8 6 := ⟨RX8, TX8, 14, tyX8, cf_8, by decide, jw_990⟩
theorem fl_X8_31 : FL RX8 31 8 7 := ⟨RX8, TX8, 14, tyX8, cf_8, by decide, jw_991⟩
theorem fl_X8_38 : FL RX8 38 8 12 := ⟨RX8, TX8, 14, tyX8, cf_8, by decide, jw_996⟩
theorem fw_X8_38 : FW RX8 38 8 12 .int := ⟨RX8, TX8, 14, tyX8, cf_8, by decide, jw_996, rfl, by decide +kernel⟩
theorem fl_X8_46 : FL RX8 46 8 10 := ⟨RX8, TX8, 14, tyX8, cf_8, by decide, jw_994⟩
theorem fw_X8_46 : FW RX8 46 8 10 .int := ⟨RX8, TX8, 14, tyX8, cf_8, by decide, jw_994, rfl, by decide +kernel⟩
theorem fl_X8_160 : FL RX8 160 8 11 := ⟨RX8, TX8, 14, tyX8, cf_8, by decide, jw_995⟩
theorem fw_X8_160 : FW RX8 160 8 11 .int := ⟨RX8, TX8, 14, tyX8, cf_8, by decide, jw_995, rfl, by decide +kernel⟩
theorem fl_X8_163 : FL RX8 163 8 9 := ⟨RX8, TX8, 14, tyX8, cf_8, by decide, jw_993⟩
theorem fw_X8_163 : FW RX8 163 8 9 .int := ⟨RX8, TX8, 14, tyX8, cf_8, by decide, jw_993, rfl, by decide +kernel⟩
theorem fl_X8_166 : FL RX8 166 8 8 := ⟨RX8, TX8, 14, tyX8, cf_8, by decide, jw_992⟩
theorem fw_X8_166 : FW RX8 166 8 8 .int := ⟨RX8, TX8, 14, tyX8, cf_8, by decide, jw_992, rfl, by decide +kernel⟩
theorem fl_X8_256 : FL RX8 256 8 13 := ⟨RX8, TX8, 14, tyX8, cf_8, by decide, jw_997⟩
theorem fw_X8_256 : FW RX8 256 8 13 .long := ⟨RX8, TX8, 14, tyX8, cf_8, by decide, jw_997, rfl, by decide +kernel⟩

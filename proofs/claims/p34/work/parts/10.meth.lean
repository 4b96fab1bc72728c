/-! the methods, the cells, what the tables say of them -/
theorem cf_0 : CF 0 RX0 TX0 7 tyX0 := by
  refine ⟨rfl, fun w hw => ?_, tyX0_ok, nmX0⟩
  obtain ⟨k, hk, rfl⟩ := List.mem_map.mp hw
  have hk := List.mem_range.mp hk
  match k, hk with
  | 0, _ => exact jw_60
  | 1, _ => exact jw_62
  | 2, _ => exact jw_64
  | 3, _ => exact jw_66
  | 4, _ => exact jw_68
  | 5, _ => exact jw_70
  | 6, _ => exact jw_72
  | k + 7, hk => exact absurd hk (by omega)
theorem cf_1 : CF 1 RX1 TX1 3 tyX1 := by
  refine ⟨rfl, fun w hw => ?_, tyX1_ok, nmX1⟩
  obtain ⟨k, hk, rfl⟩ := List.mem_map.mp hw
  have hk := List.mem_range.mp hk
  match k, hk with
  | 0, _ => exact jw_89
  | 1, _ => exact jw_91
  | 2, _ => exact jw_93
  | k + 3, hk => exact absurd hk (by omega)
theorem cf_2 : CF 2 RX2 TX2 6 tyX2 := by
  refine ⟨rfl, fun w hw => ?_, tyX2_ok, nmX2⟩
  obtain ⟨k, hk, rfl⟩ := List.mem_map.mp hw
  have hk := List.mem_range.mp hk
  match k, hk with
  | 0, _ => exact jw_145
  | 1, _ => exact jw_147
  | 2, _ => exact jw_149
  | 3, _ => exact jw_151
  | 4, _ => exact jw_153
  | 5, _ => exact jw_155
  | k + 6, hk => exact absurd hk (by omega)
theorem cf_3 : CF 3 RX3 TX3 11 tyX3 := by
  refine ⟨rfl, fun w hw => ?_, tyX3_ok, nmX3⟩
  obtain ⟨k, hk, rfl⟩ := List.mem_map.mp hw
  have hk := List.mem_range.mp hk
  match k, hk with
  | 0, _ => exact jw_189
  | 1, _ => exact jw_191
  | 2, _ => exact jw_193
  | 3, _ => exact jw_195
  | 4, _ => exact jw_197
  | 5, _ => exact jw_199
  | 6, _ => exact jw_201
  | 7, _ => exact jw_203
  | 8, _ => exact jw_205
  | 9, _ => exact jw_207
  | 10, _ => exact jw_209
  | k + 11, hk => exact absurd hk (by omega)
theorem cf_4 : CF 4 RX4 TX4 2 tyX4 := by
  refine ⟨rfl, fun w hw => ?_, tyX4_ok, nmX4⟩
  obtain ⟨k, hk, rfl⟩ := List.mem_map.mp hw
  have hk := List.mem_range.mp hk
  match k, hk with
  | 0, _ => exact jw_224
  | 1, _ => exact jw_226
  | k + 2, hk => exact absurd hk (by omega)
theorem cf_5 : CF 5 RX5 TX5 4 tyX5 := by
  refine ⟨rfl, fun w hw => ?_, tyX5_ok, nmX5⟩
  obtain ⟨k, hk, rfl⟩ := List.mem_map.mp hw
  have hk := List.mem_range.mp hk
  match k, hk with
  | 0, _ => exact jw_113
  | 1, _ => exact jw_115
  | 2, _ => exact jw_117
  | 3, _ => exact jw_119
  | k + 4, hk => exact absurd hk (by omega)
theorem cf_6 : CF 6 RX6 TX6 2 tyX6 := by
  refine ⟨rfl, fun w hw => ?_, tyX6_ok, nmX6⟩
  obtain ⟨k, hk, rfl⟩ := List.mem_map.mp hw
  have hk := List.mem_range.mp hk
  match k, hk with
  | 0, _ => exact jw_238
  | 1, _ => exact jw_240
  | k + 2, hk => exact absurd hk (by omega)
theorem cf_7 : CF 7 RX7 TX7 4 tyX7 := by
  refine ⟨rfl, fun w hw => ?_, tyX7_ok, nmX7⟩
  obtain ⟨k, hk, rfl⟩ := List.mem_map.mp hw
  have hk := List.mem_range.mp hk
  match k, hk with
  | 0, _ => exact jw_247
  | 1, _ => exact jw_249
  | 2, _ => exact jw_251
  | 3, _ => exact jw_253
  | k + 4, hk => exact absurd hk (by omega)
abbrev iX0_init : MI := (yX0_init, cX0_init, 1, none, 1, 23)
theorem kI_X0_init : KI iX0_init 0 := ⟨jw_37, jw_3, by decide, by decide, by decide +kernel⟩
theorem kC_X0_init : KC iX0_init 0 := ⟨kI_X0_init, rfl, jw_36⟩
abbrev iX0_become : MI := (yX0_become, cX0_become, 2, none, 2, 81)
theorem kI_X0_become : KI iX0_become 1 := ⟨jw_370, jw_3, by decide, by decide, by decide +kernel⟩
theorem kV_X0_become : KV iX0_become 1 := ⟨kI_X0_become, jw_368, jw_369⟩
abbrev iX0_isOne : MI := (yX0_isOne, cX0_isOne, 2, some .boolean, 1, 20)
theorem kI_X0_isOne : KI iX0_isOne 1 := ⟨jw_459, jw_3, by decide, by decide, by decide +kernel⟩
theorem kV_X0_isOne : KV iX0_isOne 1 := ⟨kI_X0_isOne, jw_457, jw_458⟩
abbrev iX0_bitOf : MI := (yX0_bitOf, cX0_bitOf, 2, some .int, 2, 41)
theorem kI_X0_bitOf : KI iX0_bitOf 1 := ⟨jw_455, jw_3, by decide, by decide, by decide +kernel⟩
theorem kV_X0_bitOf : KV iX0_bitOf 1 := ⟨kI_X0_bitOf, jw_453, jw_454⟩
abbrev iX0_putBit : MI := (yX0_putBit, cX0_putBit, 3, none, 1, 20)
theorem kI_X0_putBit : KI iX0_putBit 2 := ⟨jw_644, jw_3, by decide, by decide, by decide +kernel⟩
theorem kV_X0_putBit : KV iX0_putBit 2 := ⟨kI_X0_putBit, jw_642, jw_643⟩
abbrev iX0_isLeased : MI := (yX0_isLeased, cX0_isLeased, 2, some .boolean, 0, 0)
theorem kI_X0_isLeased : KI iX0_isLeased 1 := ⟨jw_467, jw_3, by decide, by decide, by decide +kernel⟩
theorem kV_X0_isLeased : KV iX0_isLeased 1 := ⟨kI_X0_isLeased, jw_465, jw_466⟩
abbrev iX0_isLeasedTo : MI := (yX0_isLeasedTo, cX0_isLeasedTo, 3, some .boolean, 2, 42)
theorem kI_X0_isLeasedTo : KI iX0_isLeasedTo 2 := ⟨jw_870, jw_3, by decide, by decide, by decide +kernel⟩
theorem kV_X0_isLeasedTo : KV iX0_isLeasedTo 2 := ⟨kI_X0_isLeasedTo, jw_868, jw_869⟩
abbrev iX0_hasPolicy : MI := (yX0_hasPolicy, cX0_hasPolicy, 2, some .boolean, 0, 0)
theorem kI_X0_hasPolicy : KI iX0_hasPolicy 1 := ⟨jw_423, jw_3, by decide, by decide, by decide +kernel⟩
theorem kV_X0_hasPolicy : KV iX0_hasPolicy 1 := ⟨kI_X0_hasPolicy, jw_421, jw_422⟩
abbrev iX0_endPolicy : MI := (yX0_endPolicy, cX0_endPolicy, 2, none, 0, 0)
theorem kI_X0_endPolicy : KI iX0_endPolicy 1 := ⟨jw_651, jw_3, by decide, by decide, by decide +kernel⟩
theorem kV_X0_endPolicy : KV iX0_endPolicy 1 := ⟨kI_X0_endPolicy, jw_649, jw_650⟩
abbrev iX0_endLease : MI := (yX0_endLease, cX0_endLease, 2, none, 1, 21)
theorem kI_X0_endLease : KI iX0_endLease 1 := ⟨jw_686, jw_3, by decide, by decide, by decide +kernel⟩
theorem kV_X0_endLease : KV iX0_endLease 1 := ⟨kI_X0_endLease, jw_684, jw_685⟩
abbrev iX0_leasesOf : MI := (yX0_leasesOf, cX0_leasesOf, 5, some .long, 1, 20)
theorem kI_X0_leasesOf : KI iX0_leasesOf 1 := ⟨jw_402, jw_3, by decide, by decide, by decide +kernel⟩
theorem kV_X0_leasesOf : KV iX0_leasesOf 1 := ⟨kI_X0_leasesOf, jw_400, jw_401⟩
abbrev iX0_insured : MI := (yX0_insured, cX0_insured, 4, some .long, 1, 21)
theorem kI_X0_insured : KI iX0_insured 0 := ⟨jw_419, jw_3, by decide, by decide, by decide +kernel⟩
theorem kV_X0_insured : KV iX0_insured 0 := ⟨kI_X0_insured, jw_417, jw_418⟩
abbrev iX0_leasedTo : MI := (yX0_leasedTo, cX0_leasedTo, 2, some .int, 2, 44)
theorem kI_X0_leasedTo : KI iX0_leasedTo 1 := ⟨jw_398, jw_3, by decide, by decide, by decide +kernel⟩
theorem kV_X0_leasedTo : KV iX0_leasedTo 1 := ⟨kI_X0_leasedTo, jw_396, jw_397⟩
abbrev iX0_insuredOf : MI := (yX0_insuredOf, cX0_insuredOf, 2, some .int, 2, 44)
theorem kI_X0_insuredOf : KI iX0_insuredOf 1 := ⟨jw_542, jw_3, by decide, by decide, by decide +kernel⟩
theorem kV_X0_insuredOf : KV iX0_insuredOf 1 := ⟨kI_X0_insuredOf, jw_540, jw_541⟩
abbrev iX0_leasedInAll : MI := (yX0_leasedInAll, cX0_leasedInAll, 1, some .int, 3, 65)
theorem kI_X0_leasedInAll : KI iX0_leasedInAll 0 := ⟨jw_394, jw_3, by decide, by decide, by decide +kernel⟩
theorem kV_X0_leasedInAll : KV iX0_leasedInAll 0 := ⟨kI_X0_leasedInAll, jw_392, jw_393⟩
abbrev iX0_insuredInAll : MI := (yX0_insuredInAll, cX0_insuredInAll, 1, some .int, 2, 44)
theorem kI_X0_insuredInAll : KI iX0_insuredInAll 0 := ⟨jw_415, jw_3, by decide, by decide, by decide +kernel⟩
theorem kV_X0_insuredInAll : KV iX0_insuredInAll 0 := ⟨kI_X0_insuredInAll, jw_413, jw_414⟩
abbrev iX0_insuredBy : MI := (yX0_insuredBy, cX0_insuredBy, 4, some .int, 0, 0)
theorem kI_X0_insuredBy : KI iX0_insuredBy 1 := ⟨jw_569, jw_3, by decide, by decide, by decide +kernel⟩
theorem kV_X0_insuredBy : KV iX0_insuredBy 1 := ⟨kI_X0_insuredBy, jw_567, jw_568⟩
abbrev iX0_onesBelow : MI := (yX0_onesBelow, cX0_onesBelow, 5, some .long, 2, 41)
theorem kI_X0_onesBelow : KI iX0_onesBelow 1 := ⟨jw_488, jw_3, by decide, by decide, by decide +kernel⟩
theorem kV_X0_onesBelow : KV iX0_onesBelow 1 := ⟨kI_X0_onesBelow, jw_486, jw_487⟩
abbrev iX1_init : MI := (yX1_init, cX1_init, 1, none, 1, 23)
theorem kI_X1_init : KI iX1_init 0 := ⟨jw_80, jw_5, by decide, by decide, by decide +kernel⟩
theorem kC_X1_init : KC iX1_init 0 := ⟨kI_X1_init, rfl, jw_79⟩
abbrev iX1_become : MI := (yX1_become, cX1_become, 2, none, 2, 81)
theorem kI_X1_become : KI iX1_become 1 := ⟨jw_375, jw_5, by decide, by decide, by decide +kernel⟩
theorem kV_X1_become : KV iX1_become 1 := ⟨kI_X1_become, jw_373, jw_374⟩
abbrev iX1_isOwed : MI := (yX1_isOwed, cX1_isOwed, 2, some .boolean, 0, 0)
theorem kI_X1_isOwed : KI iX1_isOwed 1 := ⟨jw_476, jw_5, by decide, by decide, by decide +kernel⟩
theorem kV_X1_isOwed : KV iX1_isOwed 1 := ⟨kI_X1_isOwed, jw_474, jw_475⟩
abbrev iX1_dueOf : MI := (yX1_dueOf, cX1_dueOf, 2, some .int, 2, 42)
theorem kI_X1_dueOf : KI iX1_dueOf 1 := ⟨jw_585, jw_5, by decide, by decide, by decide +kernel⟩
theorem kV_X1_dueOf : KV iX1_dueOf 1 := ⟨kI_X1_dueOf, jw_583, jw_584⟩
abbrev iX1_firstCore : MI := (yX1_firstCore, cX1_firstCore, 1, some .int, 0, 0)
theorem kI_X1_firstCore : KI iX1_firstCore 0 := ⟨jw_627, jw_5, by decide, by decide, by decide +kernel⟩
theorem kV_X1_firstCore : KV iX1_firstCore 0 := ⟨kI_X1_firstCore, jw_625, jw_626⟩
abbrev iX1_enter : MI := (yX1_enter, cX1_enter, 4, none, 3, 63)
theorem kI_X1_enter : KI iX1_enter 2 := ⟨jw_799, jw_5, by decide, by decide, by decide +kernel⟩
theorem kV_X1_enter : KV iX1_enter 2 := ⟨kI_X1_enter, jw_797, jw_798⟩
abbrev iX1_strike : MI := (yX1_strike, cX1_strike, 4, none, 1, 21)
theorem kI_X1_strike : KI iX1_strike 1 := ⟨jw_664, jw_5, by decide, by decide, by decide +kernel⟩
theorem kV_X1_strike : KV iX1_strike 1 := ⟨kI_X1_strike, jw_662, jw_663⟩
abbrev iX2_init : MI := (yX2_init, cX2_init, 1, none, 1, 20)
theorem kI_X2_init : KI iX2_init 0 := ⟨jw_126, jw_7, by decide, by decide, by decide +kernel⟩
theorem kC_X2_init : KC iX2_init 0 := ⟨kI_X2_init, rfl, jw_125⟩
abbrev iX2_become : MI := (yX2_become, cX2_become, 2, none, 2, 81)
theorem kI_X2_become : KI iX2_become 1 := ⟨jw_385, jw_7, by decide, by decide, by decide +kernel⟩
theorem kV_X2_become : KV iX2_become 1 := ⟨kI_X2_become, jw_383, jw_384⟩
abbrev iX2_has : MI := (yX2_has, cX2_has, 2, some .boolean, 0, 0)
theorem kI_X2_has : KI iX2_has 1 := ⟨jw_564, jw_7, by decide, by decide, by decide +kernel⟩
theorem kV_X2_has : KV iX2_has 1 := ⟨kI_X2_has, jw_562, jw_563⟩
abbrev iX2_enter : MI := (yX2_enter, cX2_enter, 4, some .int, 0, 0)
theorem kI_X2_enter : KI iX2_enter 3 := ⟨jw_744, jw_7, by decide, by decide, by decide +kernel⟩
theorem kV_X2_enter : KV iX2_enter 3 := ⟨kI_X2_enter, jw_742, jw_743⟩
abbrev iX3_init : MI := (yX3_init, cX3_init, 1, none, 2, 81)
theorem kI_X3_init : KI iX3_init 0 := ⟨jw_31, jw_2, by decide, by decide, by decide +kernel⟩
theorem kC_X3_init : KC iX3_init 0 := ⟨kI_X3_init, rfl, jw_30⟩
abbrev iX3_become : MI := (yX3_become, cX3_become, 3, none, 3, 102)
theorem kI_X3_become : KI iX3_become 1 := ⟨jw_366, jw_2, by decide, by decide, by decide +kernel⟩
theorem kV_X3_become : KV iX3_become 1 := ⟨kI_X3_become, jw_364, jw_365⟩
abbrev iX3_rentFor : MI := (yX3_rentFor, cX3_rentFor, 2, some .int, 0, 0)
theorem kI_X3_rentFor : KI iX3_rentFor 1 := ⟨jw_753, jw_2, by decide, by decide, by decide +kernel⟩
theorem kV_X3_rentFor : KV iX3_rentFor 1 := ⟨kI_X3_rentFor, jw_751, jw_752⟩
abbrev iX3_leaseLeft : MI := (yX3_leaseLeft, cX3_leaseLeft, 2, some .int, 1, 21)
theorem kI_X3_leaseLeft : KI iX3_leaseLeft 1 := ⟨jw_463, jw_2, by decide, by decide, by decide +kernel⟩
theorem kV_X3_leaseLeft : KV iX3_leaseLeft 1 := ⟨kI_X3_leaseLeft, jw_461, jw_462⟩
abbrev iX3_policyLeft : MI := (yX3_policyLeft, cX3_policyLeft, 2, some .int, 1, 21)
theorem kI_X3_policyLeft : KI iX3_policyLeft 1 := ⟨jw_471, jw_2, by decide, by decide, by decide +kernel⟩
theorem kV_X3_policyLeft : KV iX3_policyLeft 1 := ⟨kI_X3_policyLeft, jw_469, jw_470⟩
abbrev iX3_leaseOut : MI := (yX3_leaseOut, cX3_leaseOut, 5, none, 1, 21)
theorem kI_X3_leaseOut : KI iX3_leaseOut 3 := ⟨jw_757, jw_2, by decide, by decide, by decide +kernel⟩
theorem kV_X3_leaseOut : KV iX3_leaseOut 3 := ⟨kI_X3_leaseOut, jw_755, jw_756⟩
abbrev iX3_premiumFor : MI := (yX3_premiumFor, cX3_premiumFor, 6, some .int, 0, 0)
theorem kI_X3_premiumFor : KI iX3_premiumFor 4 := ⟨jw_698, jw_2, by decide, by decide, by decide +kernel⟩
theorem kV_X3_premiumFor : KV iX3_premiumFor 4 := ⟨kI_X3_premiumFor, jw_696, jw_697⟩
abbrev iX3_makePolicy : MI := (yX3_makePolicy, cX3_makePolicy, 6, none, 1, 26)
theorem kI_X3_makePolicy : KI iX3_makePolicy 5 := ⟨jw_767, jw_2, by decide, by decide, by decide +kernel⟩
theorem kV_X3_makePolicy : KV iX3_makePolicy 5 := ⟨kI_X3_makePolicy, jw_765, jw_766⟩
abbrev iX3_replaceCore : MI := (yX3_replaceCore, cX3_replaceCore, 2, none, 2, 42)
theorem kI_X3_replaceCore : KI iX3_replaceCore 1 := ⟨jw_775, jw_2, by decide, by decide, by decide +kernel⟩
theorem kV_X3_replaceCore : KV iX3_replaceCore 1 := ⟨kI_X3_replaceCore, jw_773, jw_774⟩
abbrev iX3_loseBit : MI := (yX3_loseBit, cX3_loseBit, 5, none, 2, 42)
theorem kI_X3_loseBit : KI iX3_loseBit 2 := ⟨jw_640, jw_2, by decide, by decide, by decide +kernel⟩
theorem kV_X3_loseBit : KV iX3_loseBit 2 := ⟨kI_X3_loseBit, jw_638, jw_639⟩
abbrev iX3_enterClaim : MI := (yX3_enterClaim, cX3_enterClaim, 3, none, 0, 0)
theorem kI_X3_enterClaim : KI iX3_enterClaim 2 := ⟨jw_655, jw_2, by decide, by decide, by decide +kernel⟩
theorem kV_X3_enterClaim : KV iX3_enterClaim 2 := ⟨kI_X3_enterClaim, jw_654, jp_5⟩
abbrev iX3_payClaims : MI := (yX3_payClaims, cX3_payClaims, 7, none, 0, 0)
theorem kI_X3_payClaims : KI iX3_payClaims 1 := ⟨jw_659, jw_2, by decide, by decide, by decide +kernel⟩
theorem kV_X3_payClaims : KV iX3_payClaims 1 := ⟨kI_X3_payClaims, jw_658, jp_6⟩
abbrev iX3_waitingOf : MI := (yX3_waitingOf, cX3_waitingOf, 4, some .int, 0, 0)
theorem kI_X3_waitingOf : KI iX3_waitingOf 1 := ⟨jw_546, jw_2, by decide, by decide, by decide +kernel⟩
theorem kV_X3_waitingOf : KV iX3_waitingOf 1 := ⟨kI_X3_waitingOf, jw_544, jw_545⟩
abbrev iX3_waitingOn : MI := (yX3_waitingOn, cX3_waitingOn, 4, some .int, 0, 0)
theorem kI_X3_waitingOn : KI iX3_waitingOn 1 := ⟨jw_573, jw_2, by decide, by decide, by decide +kernel⟩
theorem kV_X3_waitingOn : KV iX3_waitingOn 1 := ⟨kI_X3_waitingOn, jw_571, jw_572⟩
abbrev iX3_canBeRead : MI := (yX3_canBeRead, cX3_canBeRead, 2, some .boolean, 1, 21)
theorem kI_X3_canBeRead : KI iX3_canBeRead 1 := ⟨jw_523, jw_2, by decide, by decide, by decide +kernel⟩
theorem kV_X3_canBeRead : KV iX3_canBeRead 1 := ⟨kI_X3_canBeRead, jw_521, jw_522⟩
abbrev iX3_fragile : MI := (yX3_fragile, cX3_fragile, 1, some .long, 3, 65)
theorem kI_X3_fragile : KI iX3_fragile 0 := ⟨jw_484, jw_2, by decide, by decide, by decide +kernel⟩
theorem kV_X3_fragile : KV iX3_fragile 0 := ⟨kI_X3_fragile, jw_482, jw_483⟩
abbrev iX3_strengthBehindPulse : MI := (yX3_strengthBehindPulse, cX3_strengthBehindPulse, 2, some .int, 1, 21)
theorem kI_X3_strengthBehindPulse : KI iX3_strengthBehindPulse 1 := ⟨jw_504, jw_2, by decide, by decide, by decide +kernel⟩
theorem kV_X3_strengthBehindPulse : KV iX3_strengthBehindPulse 1 := ⟨kI_X3_strengthBehindPulse, jw_502, jw_503⟩
abbrev iX3_heatBehind : MI := (yX3_heatBehind, cX3_heatBehind, 2, some .int, 1, 21)
theorem kI_X3_heatBehind : KI iX3_heatBehind 1 := ⟨jw_499, jw_2, by decide, by decide, by decide +kernel⟩
theorem kV_X3_heatBehind : KV iX3_heatBehind 1 := ⟨kI_X3_heatBehind, jw_497, jw_498⟩
abbrev iX3_pulse : MI := (yX3_pulse, cX3_pulse, 6, none, 4, 85)
theorem kI_X3_pulse : KI iX3_pulse 2 := ⟨jw_632, jw_2, by decide, by decide, by decide +kernel⟩
theorem kV_X3_pulse : KV iX3_pulse 2 := ⟨kI_X3_pulse, jw_631, jp_4⟩
abbrev iX3_holdsOne : MI := (yX3_holdsOne, cX3_holdsOne, 2, some .boolean, 0, 0)
theorem kI_X3_holdsOne : KI iX3_holdsOne 1 := ⟨jw_669, jw_2, by decide, by decide, by decide +kernel⟩
theorem kV_X3_holdsOne : KV iX3_holdsOne 1 := ⟨kI_X3_holdsOne, jw_668, jp_7⟩
abbrev iX3_writeBit : MI := (yX3_writeBit, cX3_writeBit, 3, none, 5, 110)
theorem kI_X3_writeBit : KI iX3_writeBit 2 := ⟨jw_783, jw_2, by decide, by decide, by decide +kernel⟩
theorem kV_X3_writeBit : KV iX3_writeBit 2 := ⟨kI_X3_writeBit, jw_781, jw_782⟩
abbrev iX3_readBit : MI := (yX3_readBit, cX3_readBit, 2, some .int, 5, 110)
theorem kI_X3_readBit : KI iX3_readBit 1 := ⟨jw_794, jw_2, by decide, by decide, by decide +kernel⟩
theorem kV_X3_readBit : KV iX3_readBit 1 := ⟨kI_X3_readBit, jw_792, jw_793⟩
abbrev iX3_writeFirstBack : MI := (yX3_writeFirstBack, cX3_writeFirstBack, 2, some .int, 5, 110)
theorem kI_X3_writeFirstBack : KI iX3_writeFirstBack 0 := ⟨jw_623, jw_2, by decide, by decide, by decide +kernel⟩
theorem kV_X3_writeFirstBack : KV iX3_writeFirstBack 0 := ⟨kI_X3_writeFirstBack, jw_621, jw_622⟩
abbrev iX3_letPass : MI := (yX3_letPass, cX3_letPass, 3, none, 5, 109)
theorem kI_X3_letPass : KI iX3_letPass 1 := ⟨jw_815, jw_2, by decide, by decide, by decide +kernel⟩
theorem kV_X3_letPass : KV iX3_letPass 1 := ⟨kI_X3_letPass, jw_813, jw_814⟩
abbrev iX3_tick : MI := (yX3_tick, cX3_tick, 2, none, 4, 88)
theorem kI_X3_tick : KI iX3_tick 0 := ⟨jw_673, jw_2, by decide, by decide, by decide +kernel⟩
theorem kV_X3_tick : KV iX3_tick 0 := ⟨kI_X3_tick, jw_671, jw_672⟩
abbrev iX3_loseLateBits : MI := (yX3_loseLateBits, cX3_loseLateBits, 3, none, 3, 66)
theorem kI_X3_loseLateBits : KI iX3_loseLateBits 0 := ⟨jw_677, jw_2, by decide, by decide, by decide +kernel⟩
theorem kV_X3_loseLateBits : KV iX3_loseLateBits 0 := ⟨kI_X3_loseLateBits, jw_676, jp_8⟩
abbrev iX3_endLeaseOf : MI := (yX3_endLeaseOf, cX3_endLeaseOf, 2, none, 2, 44)
theorem kI_X3_endLeaseOf : KI iX3_endLeaseOf 1 := ⟨jw_682, jw_2, by decide, by decide, by decide +kernel⟩
theorem kV_X3_endLeaseOf : KV iX3_endLeaseOf 1 := ⟨kI_X3_endLeaseOf, jw_681, jp_9⟩
abbrev iX4_init : MI := (yX4_init, cX4_init, 2, none, 3, 101)
theorem kI_X4_init : KI iX4_init 0 := ⟨jw_216, jw_10, by decide, by decide, by decide +kernel⟩
theorem kC_X4_init : KC iX4_init 0 := ⟨kI_X4_init, rfl, jw_215⟩
abbrev iX4_keep : MI := (yX4_keep, cX4_keep, 2, none, 4, 124)
theorem kI_X4_keep : KI iX4_keep 1 := ⟨jw_358, jw_10, by decide, by decide, by decide +kernel⟩
theorem kV_X4_keep : KV iX4_keep 1 := ⟨kI_X4_keep, jw_356, jw_357⟩
abbrev iX4_dropOldest : MI := (yX4_dropOldest, cX4_dropOldest, 3, none, 0, 0)
theorem kI_X4_dropOldest : KI iX4_dropOldest 0 := ⟨jw_362, jw_10, by decide, by decide, by decide +kernel⟩
theorem kV_X4_dropOldest : KV iX4_dropOldest 0 := ⟨kI_X4_dropOldest, jw_361, jp_1⟩
abbrev iX5_init : MI := (yX5_init, cX5_init, 1, none, 1, 20)
theorem kI_X5_init : KI iX5_init 0 := ⟨jw_100, jw_6, by decide, by decide, by decide +kernel⟩
theorem kC_X5_init : KC iX5_init 0 := ⟨kI_X5_init, rfl, jw_99⟩
abbrev iX5_become : MI := (yX5_become, cX5_become, 2, none, 2, 81)
theorem kI_X5_become : KI iX5_become 1 := ⟨jw_380, jw_6, by decide, by decide, by decide +kernel⟩
theorem kV_X5_become : KV iX5_become 1 := ⟨kI_X5_become, jw_378, jw_379⟩
abbrev iX5_has : MI := (yX5_has, cX5_has, 2, some .boolean, 0, 0)
theorem kI_X5_has : KI iX5_has 1 := ⟨jw_536, jw_6, by decide, by decide, by decide +kernel⟩
theorem kV_X5_has : KV iX5_has 1 := ⟨kI_X5_has, jw_534, jw_535⟩
abbrev iX5_enter : MI := (yX5_enter, cX5_enter, 2, some .int, 0, 0)
theorem kI_X5_enter : KI iX5_enter 1 := ⟨jw_736, jw_6, by decide, by decide, by decide +kernel⟩
theorem kV_X5_enter : KV iX5_enter 1 := ⟨kI_X5_enter, jw_734, jw_735⟩
abbrev iX6_init : MI := (yX6_init, cX6_init, 1, none, 1, 20)
theorem kI_X6_init : KI iX6_init 0 := ⟨jw_233, jw_11, by decide, by decide, by decide +kernel⟩
theorem kC_X6_init : KC iX6_init 0 := ⟨kI_X6_init, rfl, jw_232⟩
abbrev iX6_put : MI := (yX6_put, cX6_put, 2, none, 0, 0)
theorem kI_X6_put : KI iX6_put 1 := ⟨jw_831, jw_11, by decide, by decide, by decide +kernel⟩
theorem kV_X6_put : KV iX6_put 1 := ⟨kI_X6_put, jw_829, jw_830⟩
abbrev iX6_codeAt : MI := (yX6_codeAt, cX6_codeAt, 2, some .int, 0, 0)
theorem kI_X6_codeAt : KI iX6_codeAt 1 := ⟨jw_846, jw_11, by decide, by decide, by decide +kernel⟩
theorem kV_X6_codeAt : KV iX6_codeAt 1 := ⟨kI_X6_codeAt, jw_844, jw_845⟩
abbrev iX6_digitAt : MI := (yX6_digitAt, cX6_digitAt, 2, some .int, 1, 21)
theorem kI_X6_digitAt : KI iX6_digitAt 1 := ⟨jw_865, jw_11, by decide, by decide, by decide +kernel⟩
theorem kV_X6_digitAt : KV iX6_digitAt 1 := ⟨kI_X6_digitAt, jw_863, jw_864⟩
abbrev iX6_coreAt : MI := (yX6_coreAt, cX6_coreAt, 2, some .int, 2, 42)
theorem kI_X6_coreAt : KI iX6_coreAt 1 := ⟨jw_861, jw_11, by decide, by decide, by decide +kernel⟩
theorem kV_X6_coreAt : KV iX6_coreAt 1 := ⟨kI_X6_coreAt, jw_859, jw_860⟩
abbrev iX6_stepLength : MI := (yX6_stepLength, cX6_stepLength, 2, some .int, 1, 21)
theorem kI_X6_stepLength : KI iX6_stepLength 1 := ⟨jw_880, jw_11, by decide, by decide, by decide +kernel⟩
theorem kV_X6_stepLength : KV iX6_stepLength 1 := ⟨kI_X6_stepLength, jw_878, jw_879⟩
abbrev iX6_isProgram : MI := (yX6_isProgram, cX6_isProgram, 3, some .boolean, 2, 43)
theorem kI_X6_isProgram : KI iX6_isProgram 0 := ⟨jw_842, jw_11, by decide, by decide, by decide +kernel⟩
theorem kV_X6_isProgram : KV iX6_isProgram 0 := ⟨kI_X6_isProgram, jw_840, jw_841⟩
abbrev iX6_wantedBehind : MI := (yX6_wantedBehind, cX6_wantedBehind, 2, some .int, 1, 22)
theorem kI_X6_wantedBehind : KI iX6_wantedBehind 2 := ⟨jw_849, jw_11, by decide, by decide, by decide +kernel⟩
theorem kS_X6_wantedBehind : KS iX6_wantedBehind 2 := ⟨kI_X6_wantedBehind, jw_848⟩
abbrev iX6_wantedInStep : MI := (yX6_wantedInStep, cX6_wantedInStep, 1, some .int, 0, 0)
theorem kI_X6_wantedInStep : KI iX6_wantedInStep 1 := ⟨jw_852, jw_11, by decide, by decide, by decide +kernel⟩
theorem kS_X6_wantedInStep : KS iX6_wantedInStep 1 := ⟨kI_X6_wantedInStep, jw_851⟩
abbrev iX7_init : MI := (yX7_init, cX7_init, 1, none, 4, 122)
theorem kI_X7_init : KI iX7_init 0 := ⟨jw_23, jw_1, by decide, by decide, by decide +kernel⟩
theorem kC_X7_init : KC iX7_init 0 := ⟨kI_X7_init, rfl, jw_22⟩
abbrev iX7_addTenant : MI := (yX7_addTenant, cX7_addTenant, 2, some .int, 8, 145)
theorem kI_X7_addTenant : KI iX7_addTenant 1 := ⟨jw_713, jw_1, by decide, by decide, by decide +kernel⟩
theorem kV_X7_addTenant : KV iX7_addTenant 1 := ⟨kI_X7_addTenant, jw_711, jw_712⟩
abbrev iX7_addInsurer : MI := (yX7_addInsurer, cX7_addInsurer, 4, some .int, 8, 145)
theorem kI_X7_addInsurer : KI iX7_addInsurer 3 := ⟨jw_740, jw_1, by decide, by decide, by decide +kernel⟩
theorem kV_X7_addInsurer : KV iX7_addInsurer 3 := ⟨kI_X7_addInsurer, jw_738, jw_739⟩
abbrev iX7_set : MI := (yX7_set, cX7_set, 4, some .int, 8, 145)
theorem kI_X7_set : KI iX7_set 2 := ⟨jw_259, jw_1, by decide, by decide, by decide +kernel⟩
theorem kV_X7_set : KV iX7_set 2 := ⟨kI_X7_set, jw_257, jw_258⟩
abbrev iX7_lease : MI := (yX7_lease, cX7_lease, 4, some .int, 8, 145)
theorem kI_X7_lease : KI iX7_lease 3 := ⟨jw_748, jw_1, by decide, by decide, by decide +kernel⟩
theorem kV_X7_lease : KV iX7_lease 3 := ⟨kI_X7_lease, jw_746, jw_747⟩
abbrev iX7_insure : MI := (yX7_insure, cX7_insure, 6, some .int, 8, 145)
theorem kI_X7_insure : KI iX7_insure 3 := ⟨jw_762, jw_1, by decide, by decide, by decide +kernel⟩
theorem kV_X7_insure : KV iX7_insure 3 := ⟨kI_X7_insure, jw_760, jw_761⟩
abbrev iX7_renew : MI := (yX7_renew, cX7_renew, 3, some .int, 8, 145)
theorem kI_X7_renew : KI iX7_renew 1 := ⟨jw_771, jw_1, by decide, by decide, by decide +kernel⟩
theorem kV_X7_renew : KV iX7_renew 1 := ⟨kI_X7_renew, jw_769, jw_770⟩
abbrev iX7_write : MI := (yX7_write, cX7_write, 3, some .int, 8, 145)
theorem kI_X7_write : KI iX7_write 2 := ⟨jw_779, jw_1, by decide, by decide, by decide +kernel⟩
theorem kV_X7_write : KV iX7_write 2 := ⟨kI_X7_write, jw_777, jw_778⟩
abbrev iX7_read : MI := (yX7_read, cX7_read, 2, some .int, 8, 145)
theorem kI_X7_read : KI iX7_read 1 := ⟨jw_790, jw_1, by decide, by decide, by decide +kernel⟩
theorem kV_X7_read : KV iX7_read 1 := ⟨kI_X7_read, jw_788, jw_789⟩
abbrev iX7_writeBack : MI := (yX7_writeBack, cX7_writeBack, 1, some .int, 8, 145)
theorem kI_X7_writeBack : KI iX7_writeBack 0 := ⟨jw_807, jw_1, by decide, by decide, by decide +kernel⟩
theorem kV_X7_writeBack : KV iX7_writeBack 0 := ⟨kI_X7_writeBack, jw_805, jw_806⟩
abbrev iX7_pass : MI := (yX7_pass, cX7_pass, 2, some .int, 8, 145)
theorem kI_X7_pass : KI iX7_pass 1 := ⟨jw_811, jw_1, by decide, by decide, by decide +kernel⟩
theorem kV_X7_pass : KV iX7_pass 1 := ⟨kI_X7_pass, jw_809, jw_810⟩
abbrev iX7_append : MI := (yX7_append, cX7_append, 2, some .int, 8, 125)
theorem kI_X7_append : KI iX7_append 1 := ⟨jw_827, jw_1, by decide, by decide, by decide +kernel⟩
theorem kV_X7_append : KV iX7_append 1 := ⟨kI_X7_append, jw_825, jw_826⟩
abbrev iX7_clearBuffer : MI := (yX7_clearBuffer, cX7_clearBuffer, 2, some .int, 0, 0)
theorem kI_X7_clearBuffer : KI iX7_clearBuffer 0 := ⟨jw_823, jw_1, by decide, by decide, by decide +kernel⟩
theorem kV_X7_clearBuffer : KV iX7_clearBuffer 0 := ⟨kI_X7_clearBuffer, jw_821, jw_822⟩
abbrev iX7_run : MI := (yX7_run, cX7_run, 4, some .int, 8, 154)
theorem kI_X7_run : KI iX7_run 1 := ⟨jw_838, jw_1, by decide, by decide, by decide +kernel⟩
theorem kV_X7_run : KV iX7_run 1 := ⟨kI_X7_run, jw_836, jw_837⟩
abbrev iX7_core : MI := (yX7_core, cX7_core, 3, some .int, 8, 125)
theorem kI_X7_core : KI iX7_core 2 := ⟨jw_444, jw_1, by decide, by decide, by decide +kernel⟩
theorem kV_X7_core : KV iX7_core 2 := ⟨kI_X7_core, jw_442, jw_443⟩
abbrev iX7_tenant : MI := (yX7_tenant, cX7_tenant, 3, some .int, 8, 126)
theorem kI_X7_tenant : KI iX7_tenant 2 := ⟨jw_528, jw_1, by decide, by decide, by decide +kernel⟩
theorem kV_X7_tenant : KV iX7_tenant 2 := ⟨kI_X7_tenant, jw_526, jw_527⟩
abbrev iX7_insurer : MI := (yX7_insurer, cX7_insurer, 3, some .int, 8, 126)
theorem kI_X7_insurer : KI iX7_insurer 2 := ⟨jw_556, jw_1, by decide, by decide, by decide +kernel⟩
theorem kV_X7_insurer : KV iX7_insurer 2 := ⟨kI_X7_insurer, jw_554, jw_555⟩
abbrev iX7_owed : MI := (yX7_owed, cX7_owed, 4, some .int, 8, 125)
theorem kI_X7_owed : KI iX7_owed 2 := ⟨jw_581, jw_1, by decide, by decide, by decide +kernel⟩
theorem kV_X7_owed : KV iX7_owed 2 := ⟨kI_X7_owed, jw_579, jw_580⟩
abbrev iX7_count : MI := (yX7_count, cX7_count, 2, some .int, 8, 125)
theorem kI_X7_count : KI iX7_count 1 := ⟨jw_390, jw_1, by decide, by decide, by decide +kernel⟩
theorem kV_X7_count : KV iX7_count 1 := ⟨kI_X7_count, jw_388, jw_389⟩
abbrev iX7_setting : MI := (yX7_setting, cX7_setting, 2, some .int, 8, 125)
theorem kI_X7_setting : KI iX7_setting 1 := ⟨jw_577, jw_1, by decide, by decide, by decide +kernel⟩
theorem kV_X7_setting : KV iX7_setting 1 := ⟨kI_X7_setting, jw_575, jw_576⟩
abbrev iX7_premium : MI := (yX7_premium, cX7_premium, 4, some .int, 8, 126)
theorem kI_X7_premium : KI iX7_premium 3 := ⟨jw_694, jw_1, by decide, by decide, by decide +kernel⟩
theorem kV_X7_premium : KV iX7_premium 3 := ⟨kI_X7_premium, jw_692, jw_693⟩
abbrev iX7_cheapest : MI := (yX7_cheapest, cX7_cheapest, 8, some .int, 8, 125)
theorem kI_X7_cheapest : KI iX7_cheapest 3 := ⟨jw_706, jw_1, by decide, by decide, by decide +kernel⟩
theorem kV_X7_cheapest : KV iX7_cheapest 3 := ⟨kI_X7_cheapest, jw_704, jw_705⟩
abbrev iX7_waitFor : MI := (yX7_waitFor, cX7_waitFor, 7, some .int, 8, 126)
theorem kI_X7_waitFor : KI iX7_waitFor 4 := ⟨jw_702, jw_1, by decide, by decide, by decide +kernel⟩
theorem kV_X7_waitFor : KV iX7_waitFor 4 := ⟨kI_X7_waitFor, jw_700, jw_701⟩
abbrev iX7_ifRead : MI := (yX7_ifRead, cX7_ifRead, 3, some .int, 8, 125)
theorem kI_X7_ifRead : KI iX7_ifRead 2 := ⟨jw_480, jw_1, by decide, by decide, by decide +kernel⟩
theorem kV_X7_ifRead : KV iX7_ifRead 2 := ⟨kI_X7_ifRead, jw_478, jw_479⟩
abbrev iX7_gentlest : MI := (yX7_gentlest, cX7_gentlest, 9, some .int, 4, 85)
theorem kI_X7_gentlest : KI iX7_gentlest 0 := ⟨jw_518, jw_1, by decide, by decide, by decide +kernel⟩
theorem kV_X7_gentlest : KV iX7_gentlest 0 := ⟨kI_X7_gentlest, jw_516, jw_517⟩
abbrev iX7_savable : MI := (yX7_savable, cX7_savable, 4, some .int, 8, 131)
theorem kI_X7_savable : KI iX7_savable 1 := ⟨jw_618, jw_1, by decide, by decide, by decide +kernel⟩
theorem kV_X7_savable : KV iX7_savable 1 := ⟨kI_X7_savable, jw_616, jw_617⟩
abbrev iX7_atRisk : MI := (yX7_atRisk, cX7_atRisk, 6, some .int, 8, 126)
theorem kI_X7_atRisk : KI iX7_atRisk 1 := ⟨jw_550, jw_1, by decide, by decide, by decide +kernel⟩
theorem kV_X7_atRisk : KV iX7_atRisk 1 := ⟨kI_X7_atRisk, jw_548, jw_549⟩
abbrev iX7_backShare : MI := (yX7_backShare, cX7_backShare, 2, some .double, 0, 0)
theorem kI_X7_backShare : KI iX7_backShare 0 := ⟨jw_593, jw_1, by decide, by decide, by decide +kernel⟩
theorem kV_X7_backShare : KV iX7_backShare 0 := ⟨kI_X7_backShare, jw_591, jw_592⟩
abbrev iX7_canDoStep : MI := (yX7_canDoStep, cX7_canDoStep, 4, some .boolean, 3, 64)
theorem kI_X7_canDoStep : KI iX7_canDoStep 2 := ⟨jw_857, jw_1, by decide, by decide, by decide +kernel⟩
theorem kV_X7_canDoStep : KV iX7_canDoStep 2 := ⟨kI_X7_canDoStep, jw_856, jp_10⟩
abbrev iX7_doStep : MI := (yX7_doStep, cX7_doStep, 3, none, 6, 132)
theorem kI_X7_doStep : KI iX7_doStep 1 := ⟨jw_876, jw_1, by decide, by decide, by decide +kernel⟩
theorem kV_X7_doStep : KV iX7_doStep 1 := ⟨kI_X7_doStep, jw_875, jp_11⟩
abbrev iX7_within : MI := (yX7_within, cX7_within, 3, some .boolean, 0, 0)
theorem kI_X7_within : KI iX7_within 3 := ⟨jw_265, jw_1, by decide, by decide, by decide +kernel⟩
theorem kS_X7_within : KS iX7_within 3 := ⟨kI_X7_within, jw_264⟩
abbrev iX7_isCore : MI := (yX7_isCore, cX7_isCore, 1, some .boolean, 1, 22)
theorem kI_X7_isCore : KI iX7_isCore 1 := ⟨jw_450, jw_1, by decide, by decide, by decide +kernel⟩
theorem kS_X7_isCore : KS iX7_isCore 1 := ⟨kI_X7_isCore, jw_449⟩
abbrev iX7_requireCore : MI := (yX7_requireCore, cX7_requireCore, 1, none, 7, 105)
theorem kI_X7_requireCore : KI iX7_requireCore 1 := ⟨jw_447, jw_1, by decide, by decide, by decide +kernel⟩
theorem kS_X7_requireCore : KS iX7_requireCore 1 := ⟨kI_X7_requireCore, jw_446⟩
abbrev iX7_requireTenant : MI := (yX7_requireTenant, cX7_requireTenant, 2, none, 7, 105)
theorem kI_X7_requireTenant : KI iX7_requireTenant 1 := ⟨jw_532, jw_1, by decide, by decide, by decide +kernel⟩
theorem kV_X7_requireTenant : KV iX7_requireTenant 1 := ⟨kI_X7_requireTenant, jw_531, jp_2⟩
abbrev iX7_requireInsurer : MI := (yX7_requireInsurer, cX7_requireInsurer, 2, none, 7, 105)
theorem kI_X7_requireInsurer : KI iX7_requireInsurer 1 := ⟨jw_560, jw_1, by decide, by decide, by decide +kernel⟩
theorem kV_X7_requireInsurer : KV iX7_requireInsurer 1 := ⟨kI_X7_requireInsurer, jw_559, jp_3⟩
abbrev iX7_requireSetting : MI := (yX7_requireSetting, cX7_requireSetting, 1, none, 7, 105)
theorem kI_X7_requireSetting : KI iX7_requireSetting 1 := ⟨jw_262, jw_1, by decide, by decide, by decide +kernel⟩
theorem kS_X7_requireSetting : KS iX7_requireSetting 1 := ⟨kI_X7_requireSetting, jw_261⟩
abbrev iX7_requireArgument : MI := (yX7_requireArgument, cX7_requireArgument, 1, none, 7, 105)
theorem kI_X7_requireArgument : KI iX7_requireArgument 1 := ⟨jw_338, jw_1, by decide, by decide, by decide +kernel⟩
theorem kS_X7_requireArgument : KS iX7_requireArgument 1 := ⟨kI_X7_requireArgument, jw_337⟩
abbrev iX7_requireState : MI := (yX7_requireState, cX7_requireState, 1, none, 7, 105)
theorem kI_X7_requireState : KI iX7_requireState 1 := ⟨jw_716, jw_1, by decide, by decide, by decide +kernel⟩
theorem kS_X7_requireState : KS iX7_requireState 1 := ⟨kI_X7_requireState, jw_715⟩
abbrev iX7_maskOf : MI := (yX7_maskOf, cX7_maskOf, 1, some .long, 0, 0)
theorem kI_X7_maskOf : KI iX7_maskOf 1 := ⟨jw_405, jw_1, by decide, by decide, by decide +kernel⟩
theorem kS_X7_maskOf : KS iX7_maskOf 1 := ⟨kI_X7_maskOf, jw_404⟩
abbrev iX7_linesOf : MI := (yX7_linesOf, cX7_linesOf, 5, some .long, 1, 20)
theorem kI_X7_linesOf : KI iX7_linesOf 1 := ⟨jw_491, jw_1, by decide, by decide, by decide +kernel⟩
theorem kS_X7_linesOf : KS iX7_linesOf 1 := ⟨kI_X7_linesOf, jw_490⟩
abbrev iX7_copyRow : MI := (yX7_copyRow, cX7_copyRow, 2, none, 1, 60)
theorem kI_X7_copyRow : KI iX7_copyRow 2 := ⟨jw_162, jw_1, by decide, by decide, by decide +kernel⟩
theorem kS_X7_copyRow : KS iX7_copyRow 2 := ⟨kI_X7_copyRow, jw_161⟩
abbrev iJ13_bitCount_95d88 : MI := (yJ13_bitCount_95d88, cJ13_bitCount_95d88, 2, some .int, 0, 0)
theorem kI_J13_bitCount_95d88 : KI iJ13_bitCount_95d88 1 := ⟨jw_408, jw_17, by decide, by decide, by decide +kernel⟩
theorem kS_J13_bitCount_95d88 : KS iJ13_bitCount_95d88 1 := ⟨kI_J13_bitCount_95d88, jw_407⟩
abbrev iJ9_max_7cf53 : MI := (yJ9_max_7cf53, cJ9_max_7cf53, 2, some .int, 0, 0)
theorem kI_J9_max_7cf53 : KI iJ9_max_7cf53 2 := ⟨jw_507, jw_8, by decide, by decide, by decide +kernel⟩
theorem kS_J9_max_7cf53 : KS iJ9_max_7cf53 2 := ⟨kI_J9_max_7cf53, jw_506⟩
abbrev iJ9_min_7cf53 : MI := (yJ9_min_7cf53, cJ9_min_7cf53, 2, some .int, 0, 0)
theorem kI_J9_min_7cf53 : KI iJ9_min_7cf53 2 := ⟨jw_165, jw_8, by decide, by decide, by decide +kernel⟩
theorem kS_J9_min_7cf53 : KS iJ9_min_7cf53 2 := ⟨kI_J9_min_7cf53, jw_164⟩
abbrev iJ7_fill_53178 : MI := (yJ7_fill_53178, cJ7_fill_53178, 4, none, 0, 0)
theorem kI_J7_fill_53178 : KI iJ7_fill_53178 2 := ⟨jw_41, jw_4, by decide, by decide, by decide +kernel⟩
theorem kS_J7_fill_53178 : KS iJ7_fill_53178 2 := ⟨kI_J7_fill_53178, jw_40⟩
abbrev iL_cell : MI := (yL_cell, cL_cell, 2, some .int, 0, 0)
theorem kI_L_cell : KI iL_cell 2 := ⟨jw_427, jw_0, by decide, by decide, by decide +kernel⟩
theorem kS_L_cell : KS iL_cell 2 := ⟨kI_L_cell, jw_426⟩
abbrev iL_at : MI := (yL_at, cL_at, 2, some .int, 0, 0)
theorem kI_L_at : KI iL_at 2 := ⟨jw_431, jw_0, by decide, by decide, by decide +kernel⟩
theorem kS_L_at : KS iL_at 2 := ⟨kI_L_at, jw_430⟩
abbrev iL_core : MI := (yL_core, cL_core, 1, some .int, 0, 0)
theorem kI_L_core : KI iL_core 1 := ⟨jw_440, jw_0, by decide, by decide, by decide +kernel⟩
theorem kS_L_core : KS iL_core 1 := ⟨kI_L_core, jw_439⟩
abbrev iL_line : MI := (yL_line, cL_line, 2, some .boolean, 0, 0)
theorem kI_L_line : KI iL_line 2 := ⟨jw_514, jw_0, by decide, by decide, by decide +kernel⟩
theorem kS_L_line : KS iL_line 2 := ⟨kI_L_line, jw_513⟩
abbrev iL_pay : MI := (yL_pay, cL_pay, 6, none, 0, 0)
theorem kI_L_pay : KI iL_pay 4 := ⟨jw_611, jw_0, by decide, by decide, by decide +kernel⟩
theorem kS_L_pay : KS iL_pay 4 := ⟨kI_L_pay, jw_610⟩
abbrev iL_lost : MI := (yL_lost, cL_lost, 9, none, 1, 25)
theorem kI_L_lost : KI iL_lost 7 := ⟨jw_608, jw_0, by decide, by decide, by decide +kernel⟩
theorem kS_L_lost : KS iL_lost 7 := ⟨kI_L_lost, jw_607⟩
abbrev iL_pulse : MI := (yL_pulse, cL_pulse, 11, none, 2, 53)
theorem kI_L_pulse : KI iL_pulse 10 := ⟨jw_605, jw_0, by decide, by decide, by decide +kernel⟩
theorem kS_L_pulse : KS iL_pulse 10 := ⟨kI_L_pulse, jw_604⟩
abbrev iL_write : MI := (yL_write, cL_write, 10, some .int, 3, 83)
theorem kI_L_write : KI iL_write 10 := ⟨jw_786, jw_0, by decide, by decide, by decide +kernel⟩
theorem kS_L_write : KS iL_write 10 := ⟨kI_L_write, jw_785⟩
abbrev iL_read : MI := (yL_read, cL_read, 9, some .int, 3, 83)
theorem kI_L_read : KI iL_read 9 := ⟨jw_803, jw_0, by decide, by decide, by decide +kernel⟩
theorem kS_L_read : KS iL_read 9 := ⟨kI_L_read, jw_802⟩
abbrev iL_owed : MI := (yL_owed, cL_owed, 5, some .int, 0, 0)
theorem kI_L_owed : KI iL_owed 2 := ⟨jw_589, jw_0, by decide, by decide, by decide +kernel⟩
theorem kS_L_owed : KS iL_owed 2 := ⟨kI_L_owed, jw_588⟩
abbrev iL_back : MI := (yL_back, cL_back, 9, some .int, 3, 83)
theorem kI_L_back : KI iL_back 8 := ⟨jw_602, jw_0, by decide, by decide, by decide +kernel⟩
theorem kS_L_back : KS iL_back 8 := ⟨kI_L_back, jw_601⟩
abbrev iL_tick : MI := (yL_tick, cL_tick, 10, none, 2, 53)
theorem kI_L_tick : KI iL_tick 8 := ⟨jw_614, jw_0, by decide, by decide, by decide +kernel⟩
theorem kS_L_tick : KS iL_tick 8 := ⟨kI_L_tick, jw_613⟩
abbrev iL_premium : MI := (yL_premium, cL_premium, 6, some .int, 0, 0)
theorem kI_L_premium : KI iL_premium 6 := ⟨jw_690, jw_0, by decide, by decide, by decide +kernel⟩
theorem kS_L_premium : KS iL_premium 6 := ⟨kI_L_premium, jw_689⟩
abbrev iL_risk : MI := (yL_risk, cL_risk, 7, some .int, 1, 21)
theorem kI_L_risk : KI iL_risk 5 := ⟨jw_511, jw_0, by decide, by decide, by decide +kernel⟩
theorem kS_L_risk : KS iL_risk 5 := ⟨kI_L_risk, jw_510⟩
abbrev iL_cores : MI := (yL_cores, cL_cores, 13, some .boolean, 9, 147)
theorem kI_L_cores : KI iL_cores 7 := ⟨jw_437, jw_0, by decide, by decide, by decide +kernel⟩
theorem kS_L_cores : KS iL_cores 7 := ⟨kI_L_cores, jw_436⟩
abbrev iL_told : MI := (yL_told, cL_told, 21, some .boolean, 10, 179)
theorem kI_L_told : KI iL_told 10 := ⟨jw_434, jw_0, by decide, by decide, by decide +kernel⟩
theorem kS_L_told : KS iL_told 10 := ⟨kI_L_told, jw_433⟩
abbrev iL_same : MI := (yL_same, cL_same, 3, none, 0, 0)
theorem kI_L_same : KI iL_same 2 := ⟨jw_599, jw_0, by decide, by decide, by decide +kernel⟩
theorem kS_L_same : KS iL_same 2 := ⟨kI_L_same, jw_598⟩
abbrev iL_ahead : MI := (yL_ahead, cL_ahead, 27, some .boolean, 9, 154)
theorem kI_L_ahead : KI iL_ahead 10 := ⟨jw_596, jw_0, by decide, by decide, by decide +kernel⟩
theorem kS_L_ahead : KS iL_ahead 10 := ⟨kI_L_ahead, jw_595⟩
abbrev iL_letters : MI := (yL_letters, cL_letters, 5, some .boolean, 9, 146)
theorem kI_L_letters : KI iL_letters 4 := ⟨jw_834, jw_0, by decide, by decide, by decide +kernel⟩
theorem kS_L_letters : KS iL_letters 4 := ⟨kI_L_letters, jw_833⟩
abbrev iL_runs : MI := (yL_runs, cL_runs, 19, some .boolean, 10, 177)
theorem kI_L_runs : KI iL_runs 12 := ⟨jw_819, jw_0, by decide, by decide, by decide +kernel⟩
theorem kS_L_runs : KS iL_runs 12 := ⟨kI_L_runs, jw_818⟩
abbrev iL_act : MI := (yL_act, cL_act, 19, some .boolean, 11, 215)
theorem kI_L_act : KI iL_act 12 := ⟨jw_709, jw_0, by decide, by decide, by decide +kernel⟩
theorem kS_L_act : KS iL_act 12 := ⟨kI_L_act, jw_708⟩
/-! the cells -/
def plS (q : Nat) : List SH := [.inl (3, [.inl 0, .inl 0, .inl 0, .inr (q + 1), .inr (q + 2), .inr (q + 3), .inr (q + 10), .inr (q + 13), .inr (q + 17), .inr (q + 23), .inl 0]), .inr (0, 8), .inr (0, 19),
  .inl (0, [.inl 1, .inr (q + 4), .inr (q + 5), .inr (q + 6), .inr (q + 7), .inr (q + 8), .inr (q + 9)]), .inr (0, 64), .inr (0, 64), .inr (0, 64), .inr (0, 64), .inr (0, 64), .inr (0, 64),
  .inl (1, [.inl 0, .inr (q + 11), .inr (q + 12)]), .inr (0, 64), .inr (0, 64), .inl (5, [.inl 0, .inr (q + 14), .inr (q + 15), .inr (q + 16)]), .inr (0, 6), .inr (0, 6), .inr (0, 6),
  .inl (2, [.inl 0, .inr (q + 18), .inr (q + 19), .inr (q + 20), .inr (q + 21), .inr (q + 22)]), .inr (0, 3), .inr (0, 3), .inr (0, 3), .inr (0, 3), .inr (0, 3), .inr (0, 512)]
def SHP : List SH := .inl (7, [.inr 1, .inr 25, .inr 49, .inr 195]) :: (plS 1 ++ (plS 25 ++ (.inl (4, [.inl 0, .inr 50]) :: .inr (2, 6) :: (plS 51 ++ (plS 75 ++ (plS 99 ++ (plS 123 ++ (plS 147 ++ (plS 171 ++
  [.inl (6, [.inl 0, .inr 196]), .inr (0, 60), .inr (0, 64), .inr (0, 64), .inr (0, 16), .inr (0, 9), .inr (0, 12), .inr (0, 48), .inr (0, 8), .inr (0, 15)])))))))))
def PA (q : Nat) : Prop := ∀ (i : Nat) (x : SH), (plS q)[i]? = some x → SHP[q + i]? = some x
theorem PA_of {q : Nat} (h : (List.range 24).map (fun i => SHP[q + i]?) = (plS q).map some) : PA q := by
  intro i x hx
  have hi : i < 24 := (List.getElem?_eq_some_iff.mp hx).1
  have := congrArg (fun l : List (Option SH) => l[i]?) h
  simp only [List.getElem?_map, List.getElem?_range hi, hx, Option.map_some] at this
  exact Option.some.inj this
theorem PA1 : PA 1 := PA_of rfl
theorem PA25 : PA 25 := PA_of rfl
theorem PA51 : PA 51 := PA_of rfl
theorem PA75 : PA 75 := PA_of rfl
theorem PA99 : PA 99 := PA_of rfl
theorem PA123 : PA 123 := PA_of rfl
theorem PA147 : PA 147 := PA_of rfl
theorem PA171 : PA 171 := PA_of rfl
theorem sh_0 : SHP[0]? = some (.inl (7, [.inr 1, .inr 25, .inr 49, .inr 195])) := rfl
theorem sh_1 : SHP[1]? = some (.inl (3, [.inl 0, .inl 0, .inl 0, .inr 2, .inr 3, .inr 4, .inr 11, .inr 14, .inr 18, .inr 24, .inl 0])) := rfl
theorem sh_2 : SHP[2]? = some (.inr (0, 8)) := rfl
theorem sh_3 : SHP[3]? = some (.inr (0, 19)) := rfl
theorem sh_4 : SHP[4]? = some (.inl (0, [.inl 1, .inr 5, .inr 6, .inr 7, .inr 8, .inr 9, .inr 10])) := rfl
theorem sh_5 : SHP[5]? = some (.inr (0, 64)) := rfl
theorem sh_6 : SHP[6]? = some (.inr (0, 64)) := rfl
theorem sh_7 : SHP[7]? = some (.inr (0, 64)) := rfl
theorem sh_8 : SHP[8]? = some (.inr (0, 64)) := rfl
theorem sh_9 : SHP[9]? = some (.inr (0, 64)) := rfl
theorem sh_10 : SHP[10]? = some (.inr (0, 64)) := rfl
theorem sh_11 : SHP[11]? = some (.inl (1, [.inl 0, .inr 12, .inr 13])) := rfl
theorem sh_12 : SHP[12]? = some (.inr (0, 64)) := rfl
theorem sh_13 : SHP[13]? = some (.inr (0, 64)) := rfl
theorem sh_14 : SHP[14]? = some (.inl (5, [.inl 0, .inr 15, .inr 16, .inr 17])) := rfl
theorem sh_15 : SHP[15]? = some (.inr (0, 6)) := rfl
theorem sh_16 : SHP[16]? = some (.inr (0, 6)) := rfl
theorem sh_17 : SHP[17]? = some (.inr (0, 6)) := rfl
theorem sh_18 : SHP[18]? = some (.inl (2, [.inl 0, .inr 19, .inr 20, .inr 21, .inr 22, .inr 23])) := rfl
theorem sh_19 : SHP[19]? = some (.inr (0, 3)) := rfl
theorem sh_20 : SHP[20]? = some (.inr (0, 3)) := rfl
theorem sh_21 : SHP[21]? = some (.inr (0, 3)) := rfl
theorem sh_22 : SHP[22]? = some (.inr (0, 3)) := rfl
theorem sh_23 : SHP[23]? = some (.inr (0, 3)) := rfl
theorem sh_24 : SHP[24]? = some (.inr (0, 512)) := rfl
theorem sh_25 : SHP[25]? = some (.inl (3, [.inl 0, .inl 0, .inl 0, .inr 26, .inr 27, .inr 28, .inr 35, .inr 38, .inr 42, .inr 48, .inl 0])) := rfl
theorem sh_26 : SHP[26]? = some (.inr (0, 8)) := rfl
theorem sh_27 : SHP[27]? = some (.inr (0, 19)) := rfl
theorem sh_28 : SHP[28]? = some (.inl (0, [.inl 1, .inr 29, .inr 30, .inr 31, .inr 32, .inr 33, .inr 34])) := rfl
theorem sh_29 : SHP[29]? = some (.inr (0, 64)) := rfl
theorem sh_30 : SHP[30]? = some (.inr (0, 64)) := rfl
theorem sh_31 : SHP[31]? = some (.inr (0, 64)) := rfl
theorem sh_32 : SHP[32]? = some (.inr (0, 64)) := rfl
theorem sh_33 : SHP[33]? = some (.inr (0, 64)) := rfl
theorem sh_34 : SHP[34]? = some (.inr (0, 64)) := rfl
theorem sh_35 : SHP[35]? = some (.inl (1, [.inl 0, .inr 36, .inr 37])) := rfl
theorem sh_36 : SHP[36]? = some (.inr (0, 64)) := rfl
theorem sh_37 : SHP[37]? = some (.inr (0, 64)) := rfl
theorem sh_38 : SHP[38]? = some (.inl (5, [.inl 0, .inr 39, .inr 40, .inr 41])) := rfl
theorem sh_39 : SHP[39]? = some (.inr (0, 6)) := rfl
theorem sh_40 : SHP[40]? = some (.inr (0, 6)) := rfl
theorem sh_41 : SHP[41]? = some (.inr (0, 6)) := rfl
theorem sh_42 : SHP[42]? = some (.inl (2, [.inl 0, .inr 43, .inr 44, .inr 45, .inr 46, .inr 47])) := rfl
theorem sh_43 : SHP[43]? = some (.inr (0, 3)) := rfl
theorem sh_44 : SHP[44]? = some (.inr (0, 3)) := rfl
theorem sh_45 : SHP[45]? = some (.inr (0, 3)) := rfl
theorem sh_46 : SHP[46]? = some (.inr (0, 3)) := rfl
theorem sh_47 : SHP[47]? = some (.inr (0, 3)) := rfl
theorem sh_48 : SHP[48]? = some (.inr (0, 512)) := rfl
theorem sh_49 : SHP[49]? = some (.inl (4, [.inl 0, .inr 50])) := rfl
theorem sh_50 : SHP[50]? = some (.inr (2, 6)) := rfl
theorem sh_195 : SHP[195]? = some (.inl (6, [.inl 0, .inr 196])) := rfl
theorem sh_196 : SHP[196]? = some (.inr (0, 60)) := rfl
theorem sh_197 : SHP[197]? = some (.inr (0, 64)) := rfl
theorem sh_198 : SHP[198]? = some (.inr (0, 64)) := rfl
theorem sh_199 : SHP[199]? = some (.inr (0, 16)) := rfl
theorem sh_200 : SHP[200]? = some (.inr (0, 9)) := rfl
theorem sh_201 : SHP[201]? = some (.inr (0, 12)) := rfl
theorem sh_202 : SHP[202]? = some (.inr (0, 48)) := rfl
theorem sh_203 : SHP[203]? = some (.inr (0, 8)) := rfl
theorem sh_204 : SHP[204]? = some (.inr (0, 15)) := rfl
/-- what holds of the world: addresses apart, the launch's flags -/
def EV (G : GX) (sh : List SH) : Prop := jAp G sh.length ∧ (gL G).flags = flags0 ∧ ∀ (i : Nat) (x : SH), SHP[i]? = some x → sh[i]? = some x
/-! the model's cell 198 -/
abbrev Z : Type := Int → Int
def u1 (z : Z) (i v : Int) : Z := fun j => if j = i then v else z j
theorem u1_at {z : Z} {i v : Int} : u1 z i v i = v := if_pos rfl
theorem u1_ne {z : Z} {i j v : Int} (h : ¬ j = i) : u1 z i v j = z j := if_neg h
theorem wr_id' {x : Int} (h1 : -2147483648 ≤ x) (h2 : x < 2147483648) : wr x = x := wr_id ⟨h1, h2⟩
theorem bI_t {p : Prop} {h0 : Decidable p} (h : p) : 1 = bI (decide p) := by simp [bI, h]
theorem bI_f {p : Prop} {h0 : Decidable p} (h : ¬ p) : 0 = bI (decide p) := by simp [bI, h]
section
variable {G : GX} {M : MI} {mc ms : Nat} {F : FinT} {pc : Nat} {L : List (Option PV)} {S : List PV} {m : Mem} {z : Z} {k n : Nat}
end
theorem fl_X7_10 : FL RX7 10 7 0 := ⟨RX7, TX7, 4, tyX7, cf_7, by decide, jw_243⟩
theorem fl_X7_16 : FL RX7 16 7 1 := ⟨RX7, TX7, 4, tyX7, cf_7, by decide, jw_244⟩
theorem fl_X7_22 : FL RX7 22 7 2 := ⟨RX7, TX7, 4, tyX7, cf_7, by decide, jw_245⟩
theorem fl_X7_29 : FL RX7 29 7 3 := ⟨RX7, TX7, 4, tyX7, cf_7, by decide, jw_246⟩
theorem fl_X7_41 : FL RX7 41 3 7 := ⟨RX3, TX3, 11, tyX3, cf_3, by decide, jw_184⟩
theorem fl_X7_45 : FL RX7 45 5 0 := ⟨RX5, TX5, 4, tyX5, cf_5, by decide, jw_103⟩
theorem fw_X7_45 : FW RX7 45 5 0 .int := ⟨RX5, TX5, 4, tyX5, cf_5, by decide, jw_103, rfl, by decide +kernel⟩
theorem fl_X7_62 : FL RX7 62 3 8 := ⟨RX3, TX3, 11, tyX3, cf_3, by decide, jw_186⟩
theorem fl_X7_66 : FL RX7 66 2 0 := ⟨RX2, TX2, 6, tyX2, cf_2, by decide, jw_129⟩
theorem fw_X7_66 : FW RX7 66 2 0 .int := ⟨RX2, TX2, 6, tyX2, cf_2, by decide, jw_129, rfl, by decide +kernel⟩
theorem fl_X7_80 : FL RX7 80 3 3 := ⟨RX3, TX3, 11, tyX3, cf_3, by decide, jw_176⟩
theorem fl_X7_89 : FL RX7 89 3 5 := ⟨RX3, TX3, 11, tyX3, cf_3, by decide, jw_180⟩
theorem fl_X7_99 : FL RX7 99 5 1 := ⟨RX5, TX5, 4, tyX5, cf_5, by decide, jw_105⟩
theorem fl_X7_112 : FL RX7 112 0 2 := ⟨RX0, TX0, 7, tyX0, cf_0, by decide, jw_48⟩
theorem fl_X7_124 : FL RX7 124 3 1 := ⟨RX3, TX3, 11, tyX3, cf_3, by decide, jw_172⟩
theorem fw_X7_124 : FW RX7 124 3 1 .int := ⟨RX3, TX3, 11, tyX3, cf_3, by decide, jw_172, rfl, by decide +kernel⟩
theorem fl_X7_135 : FL RX7 135 3 2 := ⟨RX3, TX3, 11, tyX3, cf_3, by decide, jw_174⟩
theorem fw_X7_135 : FW RX7 135 3 2 .int := ⟨RX3, TX3, 11, tyX3, cf_3, by decide, jw_174, rfl, by decide +kernel⟩
theorem fl_X7_138 : FL RX7 138 0 1 := ⟨RX0, TX0, 7, tyX0, cf_0, by decide, jw_46⟩
theorem fl_X7_157 : FL RX7 157 3 6 := ⟨RX3, TX3, 11, tyX3, cf_3, by decide, jw_182⟩
theorem fl_X7_161 : FL RX7 161 1 0 := ⟨RX1, TX1, 3, tyX1, cf_1, by decide, jw_84⟩
theorem fw_X7_161 : FW RX7 161 1 0 .int := ⟨RX1, TX1, 3, tyX1, cf_1, by decide, jw_84, rfl, by decide +kernel⟩
theorem fl_X7_168 : FL RX7 168 3 0 := ⟨RX3, TX3, 11, tyX3, cf_3, by decide, jw_170⟩
theorem fw_X7_168 : FW RX7 168 3 0 .int := ⟨RX3, TX3, 11, tyX3, cf_3, by decide, jw_170, rfl, by decide +kernel⟩
theorem fl_X7_174 : FL RX7 174 6 0 := ⟨RX6, TX6, 2, tyX6, cf_6, by decide, jw_236⟩
theorem fw_X7_174 : FW RX7 174 6 0 .int := ⟨RX6, TX6, 2, tyX6, cf_6, by decide, jw_236, rfl, by decide +kernel⟩
theorem fl_X7_197 : FL RX7 197 4 0 := ⟨RX4, TX4, 2, tyX4, cf_4, by decide, jw_222⟩
theorem fw_X7_197 : FW RX7 197 4 0 .int := ⟨RX4, TX4, 2, tyX4, cf_4, by decide, jw_222, rfl, by decide +kernel⟩
theorem fl_X7_201 : FL RX7 201 0 4 := ⟨RX0, TX0, 7, tyX0, cf_0, by decide, jw_54⟩
theorem fl_X7_210 : FL RX7 210 1 2 := ⟨RX1, TX1, 3, tyX1, cf_1, by decide, jw_88⟩
theorem fl_X7_213 : FL RX7 213 0 6 := ⟨RX0, TX0, 7, tyX0, cf_0, by decide, jw_59⟩
theorem fl_X7_222 : FL RX7 222 5 2 := ⟨RX5, TX5, 4, tyX5, cf_5, by decide, jw_109⟩
theorem fl_X7_223 : FL RX7 223 5 3 := ⟨RX5, TX5, 4, tyX5, cf_5, by decide, jw_112⟩
theorem fl_X7_229 : FL RX7 229 2 1 := ⟨RX2, TX2, 6, tyX2, cf_2, by decide, jw_132⟩
theorem fl_X7_232 : FL RX7 232 2 2 := ⟨RX2, TX2, 6, tyX2, cf_2, by decide, jw_135⟩
theorem fl_X7_235 : FL RX7 235 2 3 := ⟨RX2, TX2, 6, tyX2, cf_2, by decide, jw_138⟩
theorem fl_X7_241 : FL RX7 241 2 5 := ⟨RX2, TX2, 6, tyX2, cf_2, by decide, jw_144⟩
theorem fl_X7_247 : FL RX7 247 2 4 := ⟨RX2, TX2, 6, tyX2, cf_2, by decide, jw_141⟩
theorem fl_X7_250 : FL RX7 250 1 1 := ⟨RX1, TX1, 3, tyX1, cf_1, by decide, jw_86⟩
theorem fl_X7_265 : FL RX7 265 0 0 := ⟨RX0, TX0, 7, tyX0, cf_0, by decide, jw_43⟩
theorem fw_X7_265 : FW RX7 265 0 0 .long := ⟨RX0, TX0, 7, tyX0, cf_0, by decide, jw_43, rfl, by decide +kernel⟩
theorem fl_X7_275 : FL RX7 275 3 4 := ⟨RX3, TX3, 11, tyX3, cf_3, by decide, jw_178⟩
theorem fl_X0_9 : FL RX0 9 0 0 := ⟨RX0, TX0, 7, tyX0, cf_0, by decide, jw_42⟩
theorem fw_X0_9 : FW RX0 9 0 0 .long := ⟨RX0, TX0, 7, tyX0, cf_0, by decide, jw_42, rfl, by decide +kernel⟩
theorem fl_X0_15 : FL RX0 15 0 1 := ⟨RX0, TX0, 7, tyX0, cf_0, by decide, jw_44⟩
theorem fl_X0_19 : FL RX0 19 0 2 := ⟨RX0, TX0, 7, tyX0, cf_0, by decide, jw_47⟩
theorem fl_X0_22 : FL RX0 22 0 3 := ⟨RX0, TX0, 7, tyX0, cf_0, by decide, jw_50⟩
theorem fl_X0_25 : FL RX0 25 0 4 := ⟨RX0, TX0, 7, tyX0, cf_0, by decide, jw_52⟩
theorem fl_X0_28 : FL RX0 28 0 5 := ⟨RX0, TX0, 7, tyX0, cf_0, by decide, jw_55⟩
theorem fl_X0_31 : FL RX0 31 0 6 := ⟨RX0, TX0, 7, tyX0, cf_0, by decide, jw_57⟩
theorem fl_X1_9 : FL RX1 9 1 0 := ⟨RX1, TX1, 3, tyX1, cf_1, by decide, jw_83⟩
theorem fw_X1_9 : FW RX1 9 1 0 .int := ⟨RX1, TX1, 3, tyX1, cf_1, by decide, jw_83, rfl, by decide +kernel⟩
theorem fl_X1_15 : FL RX1 15 1 1 := ⟨RX1, TX1, 3, tyX1, cf_1, by decide, jw_85⟩
theorem fl_X1_19 : FL RX1 19 1 2 := ⟨RX1, TX1, 3, tyX1, cf_1, by decide, jw_87⟩
theorem fl_X2_9 : FL RX2 9 2 0 := ⟨RX2, TX2, 6, tyX2, cf_2, by decide, jw_128⟩
theorem fw_X2_9 : FW RX2 9 2 0 .int := ⟨RX2, TX2, 6, tyX2, cf_2, by decide, jw_128, rfl, by decide +kernel⟩
theorem fl_X2_15 : FL RX2 15 2 1 := ⟨RX2, TX2, 6, tyX2, cf_2, by decide, jw_130⟩
theorem fl_X2_19 : FL RX2 19 2 2 := ⟨RX2, TX2, 6, tyX2, cf_2, by decide, jw_133⟩
theorem fl_X2_22 : FL RX2 22 2 3 := ⟨RX2, TX2, 6, tyX2, cf_2, by decide, jw_136⟩
theorem fl_X2_25 : FL RX2 25 2 4 := ⟨RX2, TX2, 6, tyX2, cf_2, by decide, jw_139⟩
theorem fl_X2_28 : FL RX2 28 2 5 := ⟨RX2, TX2, 6, tyX2, cf_2, by decide, jw_142⟩
theorem fl_X3_9 : FL RX3 9 3 0 := ⟨RX3, TX3, 11, tyX3, cf_3, by decide, jw_169⟩
theorem fw_X3_9 : FW RX3 9 3 0 .int := ⟨RX3, TX3, 11, tyX3, cf_3, by decide, jw_169, rfl, by decide +kernel⟩
theorem fl_X3_15 : FL RX3 15 3 1 := ⟨RX3, TX3, 11, tyX3, cf_3, by decide, jw_171⟩
theorem fw_X3_15 : FW RX3 15 3 1 .int := ⟨RX3, TX3, 11, tyX3, cf_3, by decide, jw_171, rfl, by decide +kernel⟩
theorem fl_X3_18 : FL RX3 18 3 2 := ⟨RX3, TX3, 11, tyX3, cf_3, by decide, jw_173⟩
theorem fw_X3_18 : FW RX3 18 3 2 .int := ⟨RX3, TX3, 11, tyX3, cf_3, by decide, jw_173, rfl, by decide +kernel⟩
theorem fl_X3_21 : FL RX3 21 3 3 := ⟨RX3, TX3, 11, tyX3, cf_3, by decide, jw_175⟩
theorem fl_X3_25 : FL RX3 25 3 4 := ⟨RX3, TX3, 11, tyX3, cf_3, by decide, jw_177⟩
theorem fl_X3_31 : FL RX3 31 3 5 := ⟨RX3, TX3, 11, tyX3, cf_3, by decide, jw_179⟩
theorem fl_X3_38 : FL RX3 38 3 6 := ⟨RX3, TX3, 11, tyX3, cf_3, by decide, jw_181⟩
theorem fl_X3_45 : FL RX3 45 3 7 := ⟨RX3, TX3, 11, tyX3, cf_3, by decide, jw_183⟩
theorem fl_X3_52 : FL RX3 52 3 8 := ⟨RX3, TX3, 11, tyX3, cf_3, by decide, jw_185⟩
theorem fl_X3_56 : FL RX3 56 3 9 := ⟨RX3, TX3, 11, tyX3, cf_3, by decide, jw_187⟩
theorem fl_X3_59 : FL RX3 59 3 10 := ⟨RX3, TX3, 11, tyX3, cf_3, by decide, jw_188⟩
theorem fw_X3_59 : FW RX3 59 3 10 .int := ⟨RX3, TX3, 11, tyX3, cf_3, by decide, jw_188, rfl, by decide +kernel⟩
theorem fl_X3_86 : FL RX3 86 0 3 := ⟨RX0, TX0, 7, tyX0, cf_0, by decide, jw_51⟩
theorem fl_X3_92 : FL RX3 92 0 5 := ⟨RX0, TX0, 7, tyX0, cf_0, by decide, jw_56⟩
theorem fl_X3_99 : FL RX3 99 5 1 := ⟨RX5, TX5, 4, tyX5, cf_5, by decide, jw_106⟩
theorem fl_X3_102 : FL RX3 102 0 2 := ⟨RX0, TX0, 7, tyX0, cf_0, by decide, jw_49⟩
theorem fl_X3_105 : FL RX3 105 0 1 := ⟨RX0, TX0, 7, tyX0, cf_0, by decide, jw_45⟩
theorem fl_X3_108 : FL RX3 108 2 2 := ⟨RX2, TX2, 6, tyX2, cf_2, by decide, jw_134⟩
theorem fl_X3_111 : FL RX3 111 2 1 := ⟨RX2, TX2, 6, tyX2, cf_2, by decide, jw_131⟩
theorem fl_X3_114 : FL RX3 114 2 4 := ⟨RX2, TX2, 6, tyX2, cf_2, by decide, jw_140⟩
theorem fl_X3_117 : FL RX3 117 0 4 := ⟨RX0, TX0, 7, tyX0, cf_0, by decide, jw_53⟩
theorem fl_X3_128 : FL RX3 128 0 6 := ⟨RX0, TX0, 7, tyX0, cf_0, by decide, jw_58⟩
theorem fl_X3_134 : FL RX3 134 5 2 := ⟨RX5, TX5, 4, tyX5, cf_5, by decide, jw_108⟩
theorem fl_X3_143 : FL RX3 143 2 3 := ⟨RX2, TX2, 6, tyX2, cf_2, by decide, jw_137⟩
theorem fl_X3_146 : FL RX3 146 2 5 := ⟨RX2, TX2, 6, tyX2, cf_2, by decide, jw_143⟩
theorem fl_X3_149 : FL RX3 149 5 3 := ⟨RX5, TX5, 4, tyX5, cf_5, by decide, jw_111⟩
theorem fl_X4_9 : FL RX4 9 4 0 := ⟨RX4, TX4, 2, tyX4, cf_4, by decide, jw_221⟩
theorem fw_X4_9 : FW RX4 9 4 0 .int := ⟨RX4, TX4, 2, tyX4, cf_4, by decide, jw_221, rfl, by decide +kernel⟩
theorem fl_X4_17 : FL RX4 17 4 1 := ⟨RX4, TX4, 2, tyX4, cf_4, by decide, jw_223⟩
theorem fl_X5_9 : FL RX5 9 5 0 := ⟨RX5, TX5, 4, tyX5, cf_5, by decide, jw_102⟩
theorem fw_X5_9 : FW RX5 9 5 0 .int := ⟨RX5, TX5, 4, tyX5, cf_5, by decide, jw_102, rfl, by decide +kernel⟩
theorem fl_X5_15 : FL RX5 15 5 1 := ⟨RX5, TX5, 4, tyX5, cf_5, by decide, jw_104⟩
theorem fl_X5_19 : FL RX5 19 5 2 := ⟨RX5, TX5, 4, tyX5, cf_5, by decide, jw_107⟩
theorem fl_X5_22 : FL RX5 22 5 3 := ⟨RX5, TX5, 4, tyX5, cf_5, by decide, jw_110⟩
theorem fl_X6_9 : FL RX6 9 6 0 := ⟨RX6, TX6, 2, tyX6, cf_6, by decide, jw_235⟩
theorem fw_X6_9 : FW RX6 9 6 0 .int := ⟨RX6, TX6, 2, tyX6, cf_6, by decide, jw_235, rfl, by decide +kernel⟩
theorem fl_X6_15 : FL RX6 15 6 1 := ⟨RX6, TX6, 2, tyX6, cf_6, by decide, jw_237⟩

theorem sh0 : hshp[0]? = some (.inl (11, [some 1, some 3, some 8, some 10, some 14, some 23, some 31, some 32, some 35, some 40, some 45, none])) := rfl
theorem sh1 : hshp[1]? = some (.inl (10, [some 2, none, none, none, none, none])) := rfl
theorem sh2 : hshp[2]? = some (.inr (.inl (0, 260))) := rfl
theorem sh3 : hshp[3]? = some (.inl (0, [some 4, some 5, none])) := rfl
theorem sh5 : hshp[5]? = some (.inl (3, [some 6, some 7, none])) := rfl
theorem sh6 : hshp[6]? = some (.inr (.inl (0, 192))) := rfl
theorem sh7 : hshp[7]? = some (.inr (.inl (0, 192))) := rfl
theorem sh8 : hshp[8]? = some (.inl (7, [some 1, some 9, none])) := rfl
theorem sh9 : hshp[9]? = some (.inr (.inl (0, 96))) := rfl
theorem sh10 : hshp[10]? = some (.inl (4, [some 1, some 11])) := rfl
theorem sh11 : hshp[11]? = some (.inl (3, [some 12, some 13, none])) := rfl
theorem sh12 : hshp[12]? = some (.inr (.inl (0, 192))) := rfl
theorem sh13 : hshp[13]? = some (.inr (.inl (0, 192))) := rfl
theorem sh14 : hshp[14]? = some (.inl (6, [some 1, some 15])) := rfl
theorem sh15 : hshp[15]? = some (.inl (5, [some 16, some 17, some 18, none, some 19, some 20, none, some 21, some 22])) := rfl
theorem sh16 : hshp[16]? = some (.inr (.inl (0, 16))) := rfl
theorem sh17 : hshp[17]? = some (.inr (.inl (0, 16))) := rfl
theorem sh18 : hshp[18]? = some (.inr (.inl (0, 16))) := rfl
theorem sh19 : hshp[19]? = some (.inr (.inl (0, 240))) := rfl
theorem sh20 : hshp[20]? = some (.inr (.inl (0, 240))) := rfl
theorem sh21 : hshp[21]? = some (.inr (.inl (0, 8))) := rfl
theorem sh22 : hshp[22]? = some (.inr (.inl (0, 32))) := rfl
theorem sh23 : hshp[23]? = some (.inl (5, [some 24, some 25, some 26, none, some 27, some 28, none, some 29, some 30])) := rfl
theorem sh24 : hshp[24]? = some (.inr (.inl (0, 16))) := rfl
theorem sh25 : hshp[25]? = some (.inr (.inl (0, 16))) := rfl
theorem sh26 : hshp[26]? = some (.inr (.inl (0, 16))) := rfl
theorem sh27 : hshp[27]? = some (.inr (.inl (0, 240))) := rfl
theorem sh28 : hshp[28]? = some (.inr (.inl (0, 240))) := rfl
theorem sh29 : hshp[29]? = some (.inr (.inl (0, 8))) := rfl
theorem sh30 : hshp[30]? = some (.inr (.inl (0, 32))) := rfl
theorem sh31 : hshp[31]? = some (.inl (2, [some 3, some 23, none, none, none, none])) := rfl
theorem sh32 : hshp[32]? = some (.inl (9, [some 3, some 33, some 34])) := rfl
theorem sh33 : hshp[33]? = some (.inr (.inl (0, 192))) := rfl
theorem sh34 : hshp[34]? = some (.inr (.inl (0, 192))) := rfl
theorem sh35 : hshp[35]? = some (.inl (8, [some 36, some 37, some 38, some 39, none, none])) := rfl
theorem sh36 : hshp[36]? = some (.inr (.inl (0, 6))) := rfl
theorem sh37 : hshp[37]? = some (.inr (.inl (0, 6))) := rfl
theorem sh38 : hshp[38]? = some (.inr (.inl (0, 6))) := rfl
theorem sh39 : hshp[39]? = some (.inr (.inl (0, 6))) := rfl
theorem sh40 : hshp[40]? = some (.inl (8, [some 41, some 42, some 43, some 44, none, none])) := rfl
theorem sh41 : hshp[41]? = some (.inr (.inl (0, 6))) := rfl
theorem sh42 : hshp[42]? = some (.inr (.inl (0, 6))) := rfl
theorem sh43 : hshp[43]? = some (.inr (.inl (0, 6))) := rfl
theorem sh44 : hshp[44]? = some (.inr (.inl (0, 6))) := rfl
theorem sh45 : hshp[45]? = some (.inl (8, [some 46, some 47, some 48, some 49, none, none])) := rfl
theorem sh46 : hshp[46]? = some (.inr (.inl (0, 6))) := rfl
theorem sh47 : hshp[47]? = some (.inr (.inl (0, 6))) := rfl
theorem sh48 : hshp[48]? = some (.inr (.inl (0, 6))) := rfl
theorem sh49 : hshp[49]? = some (.inr (.inl (0, 6))) := rfl
theorem sh74 : hshp[74]? = some (.inl (12, [some 75, some 76, some 77, some 78, some 79, some 80, some 81, some 82, some 83, none, none, some 84, none, none, none, none, none, none, none, none, none, none, some 85, some 86, some 87, some 88, some 89, some 90, some 91, some 92, some 93, some 94, some 95, some 96, some 97, some 98, some 99, some 100, some 101, none, none, none, none, some 102, some 103, none, none, none, none, none, some 104, some 105, some 106, some 107, some 108, none])) := rfl
theorem sh75 : hshp[75]? = some (.inr (.inl (0, 32))) := rfl
theorem sh76 : hshp[76]? = some (.inr (.inl (0, 32))) := rfl
theorem sh77 : hshp[77]? = some (.inr (.inl (0, 32))) := rfl
theorem sh78 : hshp[78]? = some (.inr (.inl (0, 8))) := rfl
theorem sh79 : hshp[79]? = some (.inr (.inl (0, 8))) := rfl
theorem sh80 : hshp[80]? = some (.inr (.inl (0, 768))) := rfl
theorem sh81 : hshp[81]? = some (.inr (.inl (0, 776))) := rfl
theorem sh82 : hshp[82]? = some (.inr (.inl (0, 192))) := rfl
theorem sh83 : hshp[83]? = some (.inr (.inl (0, 192))) := rfl
theorem sh84 : hshp[84]? = some (.inr (.inl (1, 260))) := rfl
theorem sh85 : hshp[85]? = some (.inr (.inl (0, 260))) := rfl
theorem sh86 : hshp[86]? = some (.inr (.inl (0, 260))) := rfl
theorem sh87 : hshp[87]? = some (.inr (.inl (0, 16))) := rfl
theorem sh88 : hshp[88]? = some (.inr (.inl (0, 16))) := rfl
theorem sh89 : hshp[89]? = some (.inr (.inl (0, 16))) := rfl
theorem sh90 : hshp[90]? = some (.inr (.inl (0, 16))) := rfl
theorem sh91 : hshp[91]? = some (.inr (.inl (0, 260))) := rfl
theorem sh92 : hshp[92]? = some (.inr (.inl (0, 16))) := rfl
theorem sh93 : hshp[93]? = some (.inr (.inl (0, 16))) := rfl
theorem sh94 : hshp[94]? = some (.inr (.inl (0, 16))) := rfl
theorem sh95 : hshp[95]? = some (.inr (.inl (0, 16))) := rfl
theorem sh96 : hshp[96]? = some (.inr (.inl (0, 260))) := rfl
theorem sh97 : hshp[97]? = some (.inr (.inl (0, 8))) := rfl
theorem sh98 : hshp[98]? = some (.inr (.inl (0, 96))) := rfl
theorem sh99 : hshp[99]? = some (.inr (.inl (0, 2))) := rfl
theorem sh100 : hshp[100]? = some (.inr (.inl (0, 2))) := rfl
theorem sh101 : hshp[101]? = some (.inr (.inl (0, 2))) := rfl
theorem sh102 : hshp[102]? = some (.inr (.inl (0, 192))) := rfl
theorem sh103 : hshp[103]? = some (.inr (.inl (0, 192))) := rfl
theorem sh104 : hshp[104]? = some (.inr (.inl (0, 97))) := rfl
theorem sh105 : hshp[105]? = some (.inr (.inl (0, 10))) := rfl
theorem sh106 : hshp[106]? = some (.inr (.inl (0, 192))) := rfl
theorem sh107 : hshp[107]? = some (.inr (.inl (0, 192))) := rfl
theorem sh108 : hshp[108]? = some (.inr (.inl (2, 192))) := rfl
def isCo (o : Nat) : Prop := ∃ c, c < 8 ∧ o = 50 + 3 * c
def isLd (o : Nat) : Prop := o = 5 ∨ o = 11
def isLw (o : Nat) : Prop := o = 15 ∨ o = 23
def isPk (o : Nat) : Prop := o = 35 ∨ o = 40 ∨ o = 45
theorem co_all (P : Nat → Prop) (h : ∀ c, c < 8 → P (50 + 3 * c)) {o : Nat} (ho : isCo o) : P o := by
  obtain ⟨c, hc, rfl⟩ := ho; exact h c hc
theorem shC {o : Nat} (h : isCo o) : hshp[o]? = some (.inl (1, [some (o + 1), some (o + 2), none, none, none])) := co_all (fun o => hshp[o]? = some (.inl (1, [some (o + 1), some (o + 2), none, none, none]))) (fun c hc => by rcases (show c = 0 ∨ c = 1 ∨ c = 2 ∨ c = 3 ∨ c = 4 ∨ c = 5 ∨ c = 6 ∨ c = 7 by omega) with rfl | rfl | rfl | rfl | rfl | rfl | rfl | rfl <;> rfl) h
theorem shC1 {o : Nat} (h : isCo o) : hshp[o + 1]? = some (.inr (.inl (0, 96))) := co_all (fun o => hshp[o + 1]? = some (.inr (.inl (0, 96)))) (fun c hc => by rcases (show c = 0 ∨ c = 1 ∨ c = 2 ∨ c = 3 ∨ c = 4 ∨ c = 5 ∨ c = 6 ∨ c = 7 by omega) with rfl | rfl | rfl | rfl | rfl | rfl | rfl | rfl <;> rfl) h
theorem shC2 {o : Nat} (h : isCo o) : hshp[o + 2]? = some (.inr (.inl (0, 97))) := co_all (fun o => hshp[o + 2]? = some (.inr (.inl (0, 97)))) (fun c hc => by rcases (show c = 0 ∨ c = 1 ∨ c = 2 ∨ c = 3 ∨ c = 4 ∨ c = 5 ∨ c = 6 ∨ c = 7 by omega) with rfl | rfl | rfl | rfl | rfl | rfl | rfl | rfl <;> rfl) h
theorem shL {o : Nat} (h : isLd o) : hshp[o]? = some (.inl (3, [some (o + 1), some (o + 2), none])) := by rcases h with rfl | rfl <;> rfl
theorem shL1 {o : Nat} (h : isLd o) : hshp[o + 1]? = some (.inr (.inl (0, 192))) := by rcases h with rfl | rfl <;> rfl
theorem shL2 {o : Nat} (h : isLd o) : hshp[o + 2]? = some (.inr (.inl (0, 192))) := by rcases h with rfl | rfl <;> rfl
theorem shW {o : Nat} (h : isLw o) : hshp[o]? = some (.inl (5, [some (o + 1), some (o + 2), some (o + 3), none, some (o + 4), some (o + 5), none, some (o + 6), some (o + 7)])) := by rcases h with rfl | rfl <;> rfl
theorem shW1 {o : Nat} (h : isLw o) : hshp[o + 1]? = some (.inr (.inl (0, 16))) := by rcases h with rfl | rfl <;> rfl
theorem shW2 {o : Nat} (h : isLw o) : hshp[o + 2]? = some (.inr (.inl (0, 16))) := by rcases h with rfl | rfl <;> rfl
theorem shW3 {o : Nat} (h : isLw o) : hshp[o + 3]? = some (.inr (.inl (0, 16))) := by rcases h with rfl | rfl <;> rfl
theorem shW4 {o : Nat} (h : isLw o) : hshp[o + 4]? = some (.inr (.inl (0, 240))) := by rcases h with rfl | rfl <;> rfl
theorem shW5 {o : Nat} (h : isLw o) : hshp[o + 5]? = some (.inr (.inl (0, 240))) := by rcases h with rfl | rfl <;> rfl
theorem shW6 {o : Nat} (h : isLw o) : hshp[o + 6]? = some (.inr (.inl (0, 8))) := by rcases h with rfl | rfl <;> rfl
theorem shW7 {o : Nat} (h : isLw o) : hshp[o + 7]? = some (.inr (.inl (0, 32))) := by rcases h with rfl | rfl <;> rfl
theorem shP {o : Nat} (h : isPk o) : hshp[o]? = some (.inl (8, [some (o + 1), some (o + 2), some (o + 3), some (o + 4), none, none])) := by rcases h with rfl | rfl | rfl <;> rfl
theorem shP1 {o : Nat} (h : isPk o) : hshp[o + 1]? = some (.inr (.inl (0, 6))) := by rcases h with rfl | rfl | rfl <;> rfl
theorem shP2 {o : Nat} (h : isPk o) : hshp[o + 2]? = some (.inr (.inl (0, 6))) := by rcases h with rfl | rfl | rfl <;> rfl
theorem shP3 {o : Nat} (h : isPk o) : hshp[o + 3]? = some (.inr (.inl (0, 6))) := by rcases h with rfl | rfl | rfl <;> rfl
theorem shP4 {o : Nat} (h : isPk o) : hshp[o + 4]? = some (.inr (.inl (0, 6))) := by rcases h with rfl | rfl | rfl <;> rfl
abbrev iX0_courseOf : HI := (yX0_courseOf, cX0_courseOf, 2, (some (.object "HeelHounds$Course")))
abbrev iX0_laid : HI := (yX0_laid, cX0_laid, 3, (some (.object "HeelHounds$Course")))
abbrev iX0_laidBits : HI := (yX0_laidBits, cX0_laidBits, 3, (some .int))
abbrev iX0_creaturesAt : HI := (yX0_creaturesAt, cX0_creaturesAt, 6, (some .int))
abbrev iX0_strength : HI := (yX0_strength, cX0_strength, 3, (some .int))
abbrev iX0_smells : HI := (yX0_smells, cX0_smells, 4, (some .boolean))
abbrev iX0_latestOf : HI := (yX0_latestOf, cX0_latestOf, 6, (some .int))
abbrev iX0_latestScent : HI := (yX0_latestScent, cX0_latestScent, 5, (some .int))
abbrev iX0_latestCreature : HI := (yX0_latestCreature, cX0_latestCreature, 5, (some .int))
abbrev iX0_scentsAt : HI := (yX0_scentsAt, cX0_scentsAt, 7, (some .int))
abbrev iX0_nearestScent : HI := (yX0_nearestScent, cX0_nearestScent, 10, (some .int))
abbrev iX1_lay : HI := (yX1_lay, cX1_lay, 7, none)
abbrev iX1_last : HI := (yX1_last, cX1_last, 1, (some .int))
abbrev iX1_placeAt : HI := (yX1_placeAt, cX1_placeAt, 3, (some .int))
abbrev iX1_timesAt : HI := (yX1_timesAt, cX1_timesAt, 4, (some .int))
abbrev iX1_wasAt : HI := (yX1_wasAt, cX1_wasAt, 6, (some .boolean))
abbrev iX1_turns : HI := (yX1_turns, cX1_turns, 4, (some .int))
abbrev iX1_longestStraight : HI := (yX1_longestStraight, cX1_longestStraight, 5, (some .int))
abbrev iX1_period : HI := (yX1_period, cX1_period, 2, (some .int))
abbrev iX1_repeatsAfter : HI := (yX1_repeatsAfter, cX1_repeatsAfter, 3, (some .boolean))
abbrev iX2_passMoment : HI := (yX2_passMoment, cX2_passMoment, 3, none)
abbrev iX2_takeTurn : HI := (yX2_takeTurn, cX2_takeTurn, 4, none)
abbrev iX2_follow : HI := (yX2_follow, cX2_follow, 5, (some .boolean))
abbrev iX2_weigh : HI := (yX2_weigh, cX2_weigh, 12, none)
abbrev iX2_isBetter : HI := (yX2_isBetter, cX2_isBetter, 4, (some .boolean))
abbrev iX3_clear : HI := (yX3_clear, cX3_clear, 1, none)
abbrev iX3_copyFrom : HI := (yX3_copyFrom, cX3_copyFrom, 2, none)
abbrev iX3_cover : HI := (yX3_cover, cX3_cover, 4, none)
abbrev iX3_kindAt : HI := (yX3_kindAt, cX3_kindAt, 2, (some .int))
abbrev iX3_penceAt : HI := (yX3_penceAt, cX3_penceAt, 2, (some .int))
abbrev iX3_isWater : HI := (yX3_isWater, cX3_isWater, 2, (some .boolean))
abbrev iX4_read : HI := (yX4_read, cX4_read, 2, none)
abbrev iX4_readOne : HI := (yX4_readOne, cX4_readOne, 2, none)
abbrev iX4_readPlaces : HI := (yX4_readPlaces, cX4_readPlaces, 9, none)
abbrev iX4_readBounded : HI := (yX4_readBounded, cX4_readBounded, 5, (some .int))
abbrev iX4_readCharge : HI := (yX4_readCharge, cX4_readCharge, 1, (some .int))
abbrev iX4_kindOf : HI := (yX4_kindOf, cX4_kindOf, 1, (some .int))
abbrev iX5_clear : HI := (yX5_clear, cX5_clear, 1, none)
abbrev iX5_copyFrom : HI := (yX5_copyFrom, cX5_copyFrom, 2, none)
abbrev iX5_beginWorth : HI := (yX5_beginWorth, cX5_beginWorth, 2, none)
abbrev iX5_beginTest : HI := (yX5_beginTest, cX5_beginTest, 1, none)
abbrev iX5_endRule : HI := (yX5_endRule, cX5_endRule, 1, none)
abbrev iX5_add : HI := (yX5_add, cX5_add, 3, (some .int))
abbrev iX5_settle : HI := (yX5_settle, cX5_settle, 5, none)
abbrev iX5_put : HI := (yX5_put, cX5_put, 3, none)
abbrev iX5_worth : HI := (yX5_worth, cX5_worth, 4, (some .int))
abbrev iX5_givesUp : HI := (yX5_givesUp, cX5_givesUp, 2, (some .boolean))
abbrev iX5_run : HI := (yX5_run, cX5_run, 8, (some .int))
abbrev iX5_valueOf : HI := (yX5_valueOf, cX5_valueOf, 2, (some .int))
abbrev iX5_combined : HI := (yX5_combined, cX5_combined, 3, (some .int))
abbrev iX6_read : HI := (yX6_read, cX6_read, 2, none)
abbrev iX6_readRule : HI := (yX6_readRule, cX6_readRule, 2, none)
abbrev iX6_readChoice : HI := (yX6_readChoice, cX6_readChoice, 4, none)
abbrev iX6_readPart : HI := (yX6_readPart, cX6_readPart, 4, none)
abbrev iX6_readTest : HI := (yX6_readTest, cX6_readTest, 2, none)
abbrev iX6_readComparison : HI := (yX6_readComparison, cX6_readComparison, 3, none)
abbrev iX6_readSum : HI := (yX6_readSum, cX6_readSum, 4, none)
abbrev iX6_readTerm : HI := (yX6_readTerm, cX6_readTerm, 4, none)
abbrev iX6_joinsTerms : HI := (yX6_joinsTerms, cX6_joinsTerms, 1, (some .boolean))
abbrev iX6_joinsFactors : HI := (yX6_joinsFactors, cX6_joinsFactors, 1, (some .boolean))
abbrev iX6_readFactor : HI := (yX6_readFactor, cX6_readFactor, 3, none)
abbrev iX6_opens : HI := (yX6_opens, cX6_opens, 2, (some .boolean))
abbrev iX6_letterOf : HI := (yX6_letterOf, cX6_letterOf, 1, (some .int))
abbrev iX7_read : HI := (yX7_read, cX7_read, 1, none)
abbrev iX7_readSteps : HI := (yX7_readSteps, cX7_readSteps, 4, none)
abbrev iX7_readOne : HI := (yX7_readOne, cX7_readOne, 5, none)
abbrev iX7_readRound : HI := (yX7_readRound, cX7_readRound, 2, none)
abbrev iX7_readStep : HI := (yX7_readStep, cX7_readStep, 3, none)
abbrev iX7_repeat : HI := (yX7_repeat, cX7_repeat, 6, none)
abbrev iX7_wayOf : HI := (yX7_wayOf, cX7_wayOf, 1, (some .int))
abbrev iX8_copyFrom : HI := (yX8_copyFrom, cX8_copyFrom, 2, none)
abbrev iX8_tell : HI := (yX8_tell, cX8_tell, 3, none)
abbrev iX8_move : HI := (yX8_move, cX8_move, 5, none)
abbrev iX8_lose : HI := (yX8_lose, cX8_lose, 2, none)
abbrev iX8_addFault : HI := (yX8_addFault, cX8_addFault, 2, none)
abbrev iX8_isTold : HI := (yX8_isTold, cX8_isTold, 2, (some .boolean))
abbrev iX8_placeOfHound : HI := (yX8_placeOfHound, cX8_placeOfHound, 2, (some .int))
abbrev iX8_timeOf : HI := (yX8_timeOf, cX8_timeOf, 2, (some .int))
abbrev iX8_faultsOf : HI := (yX8_faultsOf, cX8_faultsOf, 2, (some .int))
abbrev iX8_stateOf : HI := (yX8_stateOf, cX8_stateOf, 2, (some .int))
abbrev iX8_bitsOf : HI := (yX8_bitsOf, cX8_bitsOf, 4, (some .int))
abbrev iX8_firstOf : HI := (yX8_firstOf, cX8_firstOf, 3, (some .int))
abbrev iX8_toldBits : HI := (yX8_toldBits, cX8_toldBits, 1, (some .int))
abbrev iX8_houndsAt : HI := (yX8_houndsAt, cX8_houndsAt, 4, (some .int))
abbrev iX8_draw : HI := (yX8_draw, cX8_draw, 1, (some .int))
abbrev iX9_crossings : HI := (yX9_crossings, cX9_crossings, 6, (some .int))
abbrev iX9_nearest : HI := (yX9_nearest, cX9_nearest, 7, (some .int))
abbrev iX9_firstWithin : HI := (yX9_firstWithin, cX9_firstWithin, 6, (some .int))
abbrev iX9_timesWithin : HI := (yX9_timesWithin, cX9_timesWithin, 7, (some .int))
abbrev iX9_fullestPlace : HI := (yX9_fullestPlace, cX9_fullestPlace, 8, (some .int))
abbrev iX9_placesOn : HI := (yX9_placesOn, cX9_placesOn, 5, (some .int))
abbrev iX9_longestStay : HI := (yX9_longestStay, cX9_longestStay, 5, (some .int))
abbrev iX9_placesComeBackTo : HI := (yX9_placesComeBackTo, cX9_placesComeBackTo, 6, (some .int))
abbrev iX9_unloop : HI := (yX9_unloop, cX9_unloop, 7, (some .int))
abbrev iX9_paidInAll : HI := (yX9_paidInAll, cX9_paidInAll, 4, (some .int))
abbrev iX9_paidFor : HI := (yX9_paidFor, cX9_paidFor, 6, (some .int))
abbrev iX9_dearestField : HI := (yX9_dearestField, cX9_dearestField, 6, (some .int))
abbrev iX9_stepsByLand : HI := (yX9_stepsByLand, cX9_stepsByLand, 4, (some .int))
abbrev iX9_placesShutIn : HI := (yX9_placesShutIn, cX9_placesShutIn, 5, (some .int))
abbrev iX9_placesSmelling : HI := (yX9_placesSmelling, cX9_placesSmelling, 9, (some .int))
abbrev iX9_queue : HI := (yX9_queue, cX9_queue, 3, (some .int))
abbrev iX9_spread : HI := (yX9_spread, cX9_spread, 7, none)
abbrev iX9_rowAt : HI := (yX9_rowAt, cX9_rowAt, 2, (some .int))
abbrev iX9_markAt : HI := (yX9_markAt, cX9_markAt, 2, (some .int))
abbrev iX9_markPlace : HI := (yX9_markPlace, cX9_markPlace, 3, none)
abbrev iX9_stepsApart : HI := (yX9_stepsApart, cX9_stepsApart, 5, (some .int))
abbrev iX9_isOnEdge : HI := (yX9_isOnEdge, cX9_isOnEdge, 3, (some .boolean))
abbrev iX10_hasRoom : HI := (yX10_hasRoom, cX10_hasRoom, 2, (some .boolean))
abbrev iX10_append : HI := (yX10_append, cX10_append, 3, none)
abbrev iX10_has : HI := (yX10_has, cX10_has, 2, (some .boolean))
abbrev iX10_canTell : HI := (yX10_canTell, cX10_canTell, 3, (some .boolean))
abbrev iX10_byteAt : HI := (yX10_byteAt, cX10_byteAt, 2, (some .int))
abbrev iX10_empty : HI := (yX10_empty, cX10_empty, 1, none)
abbrev iX10_open : HI := (yX10_open, cX10_open, 2, none)
abbrev iX10_sign : HI := (yX10_sign, cX10_sign, 1, (some .int))
abbrev iX10_isAt : HI := (yX10_isAt, cX10_isAt, 2, (some .boolean))
abbrev iX10_isDigit : HI := (yX10_isDigit, cX10_isDigit, 1, (some .boolean))
abbrev iX10_pass : HI := (yX10_pass, cX10_pass, 1, none)
abbrev iX10_expect : HI := (yX10_expect, cX10_expect, 2, none)
abbrev iX10_number : HI := (yX10_number, cX10_number, 4, (some .int))
abbrev iX10_failHere : HI := (yX10_failHere, cX10_failHere, 2, none)
abbrev iX10_failAt : HI := (yX10_failAt, cX10_failAt, 3, none)
abbrev iX10_isSound : HI := (yX10_isSound, cX10_isSound, 1, (some .boolean))
abbrev iX10_faultAnswer : HI := (yX10_faultAnswer, cX10_faultAnswer, 1, (some .int))
abbrev iX11_hound : HI := (yX11_hound, cX11_hound, 4, (some .boolean))
abbrev iX11_fading : HI := (yX11_fading, cX11_fading, 2, (some .boolean))
abbrev iX11_time : HI := (yX11_time, cX11_time, 2, (some .boolean))
abbrev iX11_feed : HI := (yX11_feed, cX11_feed, 6, (some .int))
abbrev iX11_law : HI := (yX11_law, cX11_law, 2, (some .int))
abbrev iX11_line : HI := (yX11_line, cX11_line, 7, (some .int))
abbrev iX11_land : HI := (yX11_land, cX11_land, 2, (some .int))
abbrev iX11_moments : HI := (yX11_moments, cX11_moments, 3, (some .int))
abbrev iX11_tried : HI := (yX11_tried, cX11_tried, 4, (some .int))
abbrev iX11_houndIs : HI := (yX11_houndIs, cX11_houndIs, 3, (some .int))
abbrev iX11_where : HI := (yX11_where, cX11_where, 4, (some .int))
abbrev iX11_freshest : HI := (yX11_freshest, cX11_freshest, 5, (some .int))
abbrev iX11_firstHome : HI := (yX11_firstHome, cX11_firstHome, 5, (some .int))
abbrev iX11_two : HI := (yX11_two, cX11_two, 6, (some .int))
abbrev iX11_together : HI := (yX11_together, cX11_together, 6, (some .int))
abbrev iX11_crowd : HI := (yX11_crowd, cX11_crowd, 4, (some .int))
abbrev iX11_stayed : HI := (yX11_stayed, cX11_stayed, 4, (some .int))
abbrev iX11_unlooped : HI := (yX11_unlooped, cX11_unlooped, 5, (some .int))
abbrev iX11_charges : HI := (yX11_charges, cX11_charges, 4, (some .int))
abbrev iX11_round : HI := (yX11_round, cX11_round, 3, (some .int))
abbrev iX11_cast : HI := (yX11_cast, cX11_cast, 2, (some .int))
abbrev iX11_huntable : HI := (yX11_huntable, cX11_huntable, 2, (some .int))
abbrev iX11_couldBe : HI := (yX11_couldBe, cX11_couldBe, 5, (some .int))
abbrev iX11_heldIn : HI := (yX11_heldIn, cX11_heldIn, 3, (some .int))
abbrev iX11_lineIs : HI := (yX11_lineIs, cX11_lineIs, 4, (some .int))
abbrev iX11_landAt : HI := (yX11_landAt, cX11_landAt, 3, (some .int))
abbrev iX11_seed : HI := (yX11_seed, cX11_seed, 2, (some .boolean))
abbrev iX11_keep : HI := (yX11_keep, cX11_keep, 1, (some .int))
abbrev iX11_undo : HI := (yX11_undo, cX11_undo, 1, (some .boolean))
abbrev iX11_check : HI := (yX11_check, cX11_check, 5, (some .int))
abbrev iX11_count : HI := (yX11_count, cX11_count, 2, (some .int))
abbrev iX11_isTriable : HI := (yX11_isTriable, cX11_isTriable, 2, (some .boolean))
abbrev iX11_fitsFinds : HI := (yX11_fitsFinds, cX11_fitsFinds, 7, (some .boolean))
abbrev iX11_isWithin : HI := (yX11_isWithin, cX11_isWithin, 2, (some .boolean))
abbrev iX11_isPlace : HI := (yX11_isPlace, cX11_isPlace, 1, (some .boolean))
abbrev iX11_isOnLand : HI := (yX11_isOnLand, cX11_isOnLand, 2, (some .boolean))
abbrev iX11_placeOf : HI := (yX11_placeOf, cX11_placeOf, 2, (some .int))
abbrev iX11_across : HI := (yX11_across, cX11_across, 2, (some .int))
abbrev iX11_along : HI := (yX11_along, cX11_along, 2, (some .int))
abbrev iX11_beside : HI := (yX11_beside, cX11_beside, 4, (some .int))
abbrev iX11_wayTo : HI := (yX11_wayTo, cX11_wayTo, 2, (some .int))
abbrev iX12_in : HI := (yX12_in, cX12_in, 3, (some .boolean))
abbrev iX12_max : HI := (yX12_max, cX12_max, 2, (some .int))
abbrev iX12_size : HI := (yX12_size, cX12_size, 1, (some .int))
abbrev iX12_has : HI := (yX12_has, cX12_has, 2, (some .boolean))
abbrev iX12_bits : HI := (yX12_bits, cX12_bits, 3, (some .int))
abbrev iX12_copies : HI := (yX12_copies, cX12_copies, 3, none)
abbrev iX12_isPlace : HI := (yX12_isPlace, cX12_isPlace, 2, (some .boolean))
abbrev iX12_isHound : HI := (yX12_isHound, cX12_isHound, 2, (some .boolean))
abbrev iX12_hasLine : HI := (yX12_hasLine, cX12_hasLine, 2, (some .boolean))
abbrev iX12_areTwo : HI := (yX12_areTwo, cX12_areTwo, 3, (some .boolean))
abbrev iX12_hound : HI := (yX12_hound, cX12_hound, 4, (some .boolean))
abbrev iX12_fading : HI := (yX12_fading, cX12_fading, 2, (some .boolean))
abbrev iX12_time : HI := (yX12_time, cX12_time, 2, (some .boolean))
abbrev iX12_types : HI := (yX12_types, cX12_types, 3, none)
abbrev iX12_feed : HI := (yX12_feed, cX12_feed, 6, (some .int))
abbrev iX12_octet : HI := (yX12_octet, cX12_octet, 2, (some .int))
abbrev iX12_here : HI := (yX12_here, cX12_here, 1, (some .int))
abbrev iX12_isDigit : HI := (yX12_isDigit, cX12_isDigit, 1, (some .boolean))
abbrev iX12_wrongAt : HI := (yX12_wrongAt, cX12_wrongAt, 3, (some .boolean))
abbrev iX12_takes : HI := (yX12_takes, cX12_takes, 2, (some .boolean))
abbrev iX12_readsNumber : HI := (yX12_readsNumber, cX12_readsNumber, 2, (some .boolean))
abbrev iX12_notes : HI := (yX12_notes, cX12_notes, 3, none)
abbrev iX12_opens : HI := (yX12_opens, cX12_opens, 2, (some .boolean))
abbrev iX12_waitTop : HI := (yX12_waitTop, cX12_waitTop, 1, (some .int))
abbrev iX12_factOf : HI := (yX12_factOf, cX12_factOf, 1, (some .int))
abbrev iX12_sumSign : HI := (yX12_sumSign, cX12_sumSign, 1, (some .int))
abbrev iX12_closesSums : HI := (yX12_closesSums, cX12_closesSums, 2, none)
abbrev iX12_readsFactor : HI := (yX12_readsFactor, cX12_readsFactor, 2, (some .boolean))
abbrev iX12_hasOpenSum : HI := (yX12_hasOpenSum, cX12_hasOpenSum, 3, (some .boolean))
abbrev iX12_readsSum : HI := (yX12_readsSum, cX12_readsSum, 3, (some .boolean))
abbrev iX12_endsPiece : HI := (yX12_endsPiece, cX12_endsPiece, 1, none)
abbrev iX12_lands : HI := (yX12_lands, cX12_lands, 3, none)
abbrev iX12_jumps : HI := (yX12_jumps, cX12_jumps, 2, none)
abbrev iX12_readsCompared : HI := (yX12_readsCompared, cX12_readsCompared, 2, (some .boolean))
abbrev iX12_readsCondition : HI := (yX12_readsCondition, cX12_readsCondition, 1, (some .boolean))
abbrev iX12_readsRule : HI := (yX12_readsRule, cX12_readsRule, 2, (some .boolean))
abbrev iX12_beginsText : HI := (yX12_beginsText, cX12_beginsText, 2, none)
abbrev iX12_law : HI := (yX12_law, cX12_law, 4, (some .int))
abbrev iX12_reckon : HI := (yX12_reckon, cX12_reckon, 3, (some .int))
abbrev iX12_comesTo : HI := (yX12_comesTo, cX12_comesTo, 8, (some .int))
abbrev iX12_byLaw : HI := (yX12_byLaw, cX12_byLaw, 5, (some .int))
abbrev iX12_holdsAny : HI := (yX12_holdsAny, cX12_holdsAny, 3, (some .boolean))
abbrev iX12_wayOf : HI := (yX12_wayOf, cX12_wayOf, 1, (some .int))
abbrev iX12_readsTimes : HI := (yX12_readsTimes, cX12_readsTimes, 1, none)
abbrev iX12_repeats : HI := (yX12_repeats, cX12_repeats, 6, (some .boolean))
abbrev iX12_readsStep : HI := (yX12_readsStep, cX12_readsStep, 4, (some .boolean))
abbrev iX12_beside : HI := (yX12_beside, cX12_beside, 4, (some .int))
abbrev iX12_line : HI := (yX12_line, cX12_line, 8, (some .int))
abbrev iX12_whereAt : HI := (yX12_whereAt, cX12_whereAt, 3, (some .int))
abbrev iX12_readsAmount : HI := (yX12_readsAmount, cX12_readsAmount, 2, (some .boolean))
abbrev iX12_readsWithin : HI := (yX12_readsWithin, cX12_readsWithin, 5, (some .boolean))
abbrev iX12_readsGround : HI := (yX12_readsGround, cX12_readsGround, 7, (some .boolean))
abbrev iX12_land : HI := (yX12_land, cX12_land, 4, (some .int))
abbrev iX12_landAt : HI := (yX12_landAt, cX12_landAt, 3, (some .int))
abbrev iX12_strengthOf : HI := (yX12_strengthOf, cX12_strengthOf, 4, (some .int))
abbrev iX12_houndsAt : HI := (yX12_houndsAt, cX12_houndsAt, 4, (some .int))
abbrev iX12_feels : HI := (yX12_feels, cX12_feels, 3, none)
abbrev iX12_feelsScent : HI := (yX12_feelsScent, cX12_feelsScent, 5, none)
abbrev iX12_isBetter : HI := (yX12_isBetter, cX12_isBetter, 4, (some .boolean))
abbrev iX12_asksScents : HI := (yX12_asksScents, cX12_asksScents, 8, none)
abbrev iX12_isAtFault : HI := (yX12_isAtFault, cX12_isAtFault, 2, none)
abbrev iX12_turnOf : HI := (yX12_turnOf, cX12_turnOf, 6, none)
abbrev iX12_momentGoes : HI := (yX12_momentGoes, cX12_momentGoes, 2, none)
abbrev iX12_momentsGo : HI := (yX12_momentsGo, cX12_momentsGo, 3, none)
abbrev iX12_faring : HI := (yX12_faring, cX12_faring, 4, (some .int))
abbrev iX12_moments : HI := (yX12_moments, cX12_moments, 2, (some .int))
abbrev iX12_tried : HI := (yX12_tried, cX12_tried, 4, (some .int))
abbrev iX12_houndIs : HI := (yX12_houndIs, cX12_houndIs, 3, (some .int))
abbrev iX12_lowestOf : HI := (yX12_lowestOf, cX12_lowestOf, 2, (some .int))
abbrev iX12_firstHome : HI := (yX12_firstHome, cX12_firstHome, 5, (some .int))
abbrev iX12_where : HI := (yX12_where, cX12_where, 4, (some .int))
abbrev iX12_freshest : HI := (yX12_freshest, cX12_freshest, 9, (some .int))
abbrev iX12_isOn : HI := (yX12_isOn, cX12_isOn, 4, (some .boolean))
abbrev iX12_apartAt : HI := (yX12_apartAt, cX12_apartAt, 6, (some .int))
abbrev iX12_crossedBy : HI := (yX12_crossedBy, cX12_crossedBy, 5, (some .int))
abbrev iX12_two : HI := (yX12_two, cX12_two, 8, (some .int))
abbrev iX12_together : HI := (yX12_together, cX12_together, 6, (some .int))
abbrev iX12_crowd : HI := (yX12_crowd, cX12_crowd, 8, (some .int))
abbrev iX12_timesAt : HI := (yX12_timesAt, cX12_timesAt, 5, (some .int))
abbrev iX12_staysAt : HI := (yX12_staysAt, cX12_staysAt, 6, (some .int))
abbrev iX12_stayed : HI := (yX12_stayed, cX12_stayed, 7, (some .int))
abbrev iX12_unlooped : HI := (yX12_unlooped, cX12_unlooped, 6, (some .int))
abbrev iX12_charges : HI := (yX12_charges, cX12_charges, 7, (some .int))
abbrev iX12_walksFrom : HI := (yX12_walksFrom, cX12_walksFrom, 6, none)
abbrev iX12_round : HI := (yX12_round, cX12_round, 4, (some .int))
abbrev iX12_cast : HI := (yX12_cast, cX12_cast, 7, (some .int))
abbrev iX12_huntable : HI := (yX12_huntable, cX12_huntable, 6, (some .int))
abbrev iX12_hasBeen : HI := (yX12_hasBeen, cX12_hasBeen, 6, (some .boolean))
abbrev iX12_couldBe : HI := (yX12_couldBe, cX12_couldBe, 7, (some .int))
abbrev iX12_isAtEdge : HI := (yX12_isAtEdge, cX12_isAtEdge, 1, (some .boolean))
abbrev iX12_heldIn : HI := (yX12_heldIn, cX12_heldIn, 5, (some .int))
abbrev iX12_turnsOf : HI := (yX12_turnsOf, cX12_turnsOf, 6, (some .int))
abbrev iX12_straightOf : HI := (yX12_straightOf, cX12_straightOf, 7, (some .int))
abbrev iX12_repeatsBy : HI := (yX12_repeatsBy, cX12_repeatsBy, 5, (some .int))
abbrev iX12_placesOf : HI := (yX12_placesOf, cX12_placesOf, 4, (some .int))
abbrev iX12_lineIs : HI := (yX12_lineIs, cX12_lineIs, 3, (some .int))
abbrev iX12_seed : HI := (yX12_seed, cX12_seed, 2, (some .boolean))
abbrev iX12_keep : HI := (yX12_keep, cX12_keep, 1, (some .int))
abbrev iX12_undo : HI := (yX12_undo, cX12_undo, 1, (some .boolean))
abbrev iX12_check : HI := (yX12_check, cX12_check, 3, (some .int))
abbrev iX12_count : HI := (yX12_count, cX12_count, 4, (some .int))
abbrev iJ6_bitCount_0f7a4 : HI := (yJ6_bitCount_0f7a4, cJ6_bitCount_0f7a4, 1, (some .int))
abbrev iJ9_abs_0f7a4 : HI := (yJ9_abs_0f7a4, cJ9_abs_0f7a4, 1, (some .int))
abbrev iJ9_max_7cf53 : HI := (yJ9_max_7cf53, cJ9_max_7cf53, 2, (some .int))
abbrev iJ9_min_7cf53 : HI := (yJ9_min_7cf53, cJ9_min_7cf53, 2, (some .int))
abbrev iJ7_fill_53178 : HI := (yJ7_fill_53178, cJ7_fill_53178, 4, none)
set_option maxRecDepth 100000 in
theorem uX0 : ∀ w ∈ u_ws RX0 TX0 3, w ∈ lw_tbl ∧ hok w = true := by decide +kernel
set_option maxRecDepth 100000 in
theorem uX1 : ∀ w ∈ u_ws RX1 TX1 5, w ∈ lw_tbl ∧ hok w = true := by decide +kernel
set_option maxRecDepth 100000 in
theorem uX2 : ∀ w ∈ u_ws RX2 TX2 6, w ∈ lw_tbl ∧ hok w = true := by decide +kernel
set_option maxRecDepth 100000 in
theorem uX3 : ∀ w ∈ u_ws RX3 TX3 3, w ∈ lw_tbl ∧ hok w = true := by decide +kernel
set_option maxRecDepth 100000 in
theorem uX4 : ∀ w ∈ u_ws RX4 TX4 2, w ∈ lw_tbl ∧ hok w = true := by decide +kernel
set_option maxRecDepth 100000 in
theorem uX5 : ∀ w ∈ u_ws RX5 TX5 9, w ∈ lw_tbl ∧ hok w = true := by decide +kernel
set_option maxRecDepth 100000 in
theorem uX6 : ∀ w ∈ u_ws RX6 TX6 2, w ∈ lw_tbl ∧ hok w = true := by decide +kernel
set_option maxRecDepth 100000 in
theorem uX7 : ∀ w ∈ u_ws RX7 TX7 3, w ∈ lw_tbl ∧ hok w = true := by decide +kernel
set_option maxRecDepth 100000 in
theorem uX8 : ∀ w ∈ u_ws RX8 TX8 6, w ∈ lw_tbl ∧ hok w = true := by decide +kernel
set_option maxRecDepth 100000 in
theorem uX9 : ∀ w ∈ u_ws RX9 TX9 3, w ∈ lw_tbl ∧ hok w = true := by decide +kernel
set_option maxRecDepth 100000 in
theorem uX10 : ∀ w ∈ u_ws RX10 TX10 6, w ∈ lw_tbl ∧ hok w = true := by decide +kernel
set_option maxRecDepth 100000 in
theorem uX11 : ∀ w ∈ u_ws RX11 TX11 12, w ∈ lw_tbl ∧ hok w = true := by decide +kernel
set_option maxRecDepth 100000 in
theorem uX12 : ∀ w ∈ u_ws RX12 TX12 56, w ∈ lw_tbl ∧ hok w = true := by decide +kernel
theorem fl_X11_10 : FL RX11 10 11 0 := ⟨(RX11, TX11, 12), rfl, by decide, rfl, uX11, Or.inl mw453⟩
theorem fl_X11_19 : FL RX11 19 11 1 := ⟨(RX11, TX11, 12), rfl, by decide, rfl, uX11, Or.inl mw454⟩
theorem fl_X11_28 : FL RX11 28 11 2 := ⟨(RX11, TX11, 12), rfl, by decide, rfl, uX11, Or.inl mw455⟩
theorem fl_X11_35 : FL RX11 35 11 3 := ⟨(RX11, TX11, 12), rfl, by decide, rfl, uX11, Or.inl mw456⟩
theorem fl_X11_42 : FL RX11 42 11 4 := ⟨(RX11, TX11, 12), rfl, by decide, rfl, uX11, Or.inl mw457⟩
theorem fl_X11_49 : FL RX11 49 11 5 := ⟨(RX11, TX11, 12), rfl, by decide, rfl, uX11, Or.inl mw458⟩
theorem fl_X11_58 : FL RX11 58 11 6 := ⟨(RX11, TX11, 12), rfl, by decide, rfl, uX11, Or.inl mw459⟩
theorem fl_X11_67 : FL RX11 67 11 7 := ⟨(RX11, TX11, 12), rfl, by decide, rfl, uX11, Or.inl mw460⟩
theorem fl_X11_74 : FL RX11 74 11 8 := ⟨(RX11, TX11, 12), rfl, by decide, rfl, uX11, Or.inl mw461⟩
theorem fl_X11_78 : FL RX11 78 11 9 := ⟨(RX11, TX11, 12), rfl, by decide, rfl, uX11, Or.inl mw462⟩
theorem fl_X11_81 : FL RX11 81 11 10 := ⟨(RX11, TX11, 12), rfl, by decide, rfl, uX11, Or.inl mw463⟩
theorem fl_X11_84 : FL RX11 84 11 11 := ⟨(RX11, TX11, 12), rfl, by decide, rfl, uX11, Or.inl mw464⟩
theorem fl_X11_103 : FL RX11 103 0 2 := ⟨(RX0, TX0, 3), rfl, by decide, rfl, uX0, Or.inr ⟨"HeelHounds", mw287⟩⟩
theorem fl_X11_107 : FL RX11 107 8 4 := ⟨(RX8, TX8, 6), rfl, by decide, rfl, uX8, Or.inr ⟨"HeelHounds", mw437⟩⟩
theorem fl_X11_118 : FL RX11 118 10 1 := ⟨(RX10, TX10, 6), rfl, by decide, rfl, uX10, Or.inr ⟨"HeelHounds", mw207⟩⟩
theorem fl_X11_141 : FL RX11 141 6 1 := ⟨(RX6, TX6, 2), rfl, by decide, rfl, uX6, Or.inr ⟨"HeelHounds", mw373⟩⟩
theorem fl_X11_148 : FL RX11 148 5 3 := ⟨(RX5, TX5, 9), rfl, by decide, rfl, uX5, Or.inr ⟨"HeelHounds", mw346⟩⟩
theorem fl_X11_162 : FL RX11 162 1 4 := ⟨(RX1, TX1, 5), rfl, by decide, rfl, uX1, Or.inr ⟨"HeelHounds", mw269⟩⟩
theorem fl_X11_166 : FL RX11 166 0 1 := ⟨(RX0, TX0, 3), rfl, by decide, rfl, uX0, Or.inr ⟨"HeelHounds", mw284⟩⟩
theorem fl_X11_170 : FL RX11 170 4 1 := ⟨(RX4, TX4, 2), rfl, by decide, rfl, uX4, Or.inr ⟨"HeelHounds", mw323⟩⟩
theorem fl_X11_177 : FL RX11 177 3 2 := ⟨(RX3, TX3, 3), rfl, by decide, rfl, uX3, Or.inr ⟨"HeelHounds", mw246⟩⟩
theorem fl_X11_310 : FL RX11 310 1 3 := ⟨(RX1, TX1, 5), rfl, by decide, rfl, uX1, Or.inr ⟨"HeelHounds", mw267⟩⟩
theorem fl_X11_323 : FL RX11 323 8 5 := ⟨(RX8, TX8, 6), rfl, by decide, rfl, uX8, Or.inr ⟨"HeelHounds", mw439⟩⟩
theorem fl_X0_11 : FL RX0 11 0 0 := ⟨(RX0, TX0, 3), rfl, by decide, rfl, uX0, Or.inl mw281⟩
theorem fl_X0_20 : FL RX0 20 0 1 := ⟨(RX0, TX0, 3), rfl, by decide, rfl, uX0, Or.inl mw282⟩
theorem fl_X0_24 : FL RX0 24 0 2 := ⟨(RX0, TX0, 3), rfl, by decide, rfl, uX0, Or.inl mw286⟩
theorem fl_X0_37 : FL RX0 37 1 2 := ⟨(RX1, TX1, 5), rfl, by decide, rfl, uX1, Or.inr ⟨"HeelHounds", mw262⟩⟩
theorem fl_X0_68 : FL RX0 68 1 3 := ⟨(RX1, TX1, 5), rfl, by decide, rfl, uX1, Or.inr ⟨"HeelHounds", mw266⟩⟩
theorem fl_X1_9 : FL RX1 9 1 0 := ⟨(RX1, TX1, 5), rfl, by decide, rfl, uX1, Or.inl mw259⟩
theorem fl_X1_15 : FL RX1 15 1 1 := ⟨(RX1, TX1, 5), rfl, by decide, rfl, uX1, Or.inl mw260⟩
theorem fl_X1_18 : FL RX1 18 1 2 := ⟨(RX1, TX1, 5), rfl, by decide, rfl, uX1, Or.inl mw261⟩
theorem fl_X1_22 : FL RX1 22 1 3 := ⟨(RX1, TX1, 5), rfl, by decide, rfl, uX1, Or.inl mw263⟩
theorem fl_X1_26 : FL RX1 26 1 4 := ⟨(RX1, TX1, 5), rfl, by decide, rfl, uX1, Or.inl mw268⟩
theorem fl_X1_29 : FL RX1 29 7 2 := ⟨(RX7, TX7, 3), rfl, by decide, rfl, uX7, Or.inr ⟨"HeelHounds", mw305⟩⟩
theorem fl_X1_38 : FL RX1 38 7 1 := ⟨(RX7, TX7, 3), rfl, by decide, rfl, uX7, Or.inr ⟨"HeelHounds", mw303⟩⟩
theorem fl_X2_9 : FL RX2 9 2 2 := ⟨(RX2, TX2, 6), rfl, by decide, rfl, uX2, Or.inl mw389⟩
theorem fl_X2_15 : FL RX2 15 2 3 := ⟨(RX2, TX2, 6), rfl, by decide, rfl, uX2, Or.inl mw390⟩
theorem fl_X2_18 : FL RX2 18 2 4 := ⟨(RX2, TX2, 6), rfl, by decide, rfl, uX2, Or.inl mw391⟩
theorem fl_X2_21 : FL RX2 21 2 5 := ⟨(RX2, TX2, 6), rfl, by decide, rfl, uX2, Or.inl mw392⟩
theorem fl_X2_24 : FL RX2 24 2 0 := ⟨(RX2, TX2, 6), rfl, by decide, rfl, uX2, Or.inl mw387⟩
theorem fl_X2_28 : FL RX2 28 2 1 := ⟨(RX2, TX2, 6), rfl, by decide, rfl, uX2, Or.inl mw388⟩
theorem fl_X2_42 : FL RX2 42 8 4 := ⟨(RX8, TX8, 6), rfl, by decide, rfl, uX8, Or.inr ⟨"HeelHounds", mw436⟩⟩
theorem fl_X2_93 : FL RX2 93 1 3 := ⟨(RX1, TX1, 5), rfl, by decide, rfl, uX1, Or.inr ⟨"HeelHounds", mw265⟩⟩
theorem fl_X2_122 : FL RX2 122 0 1 := ⟨(RX0, TX0, 3), rfl, by decide, rfl, uX0, Or.inr ⟨"HeelHounds", mw283⟩⟩
theorem fl_X3_9 : FL RX3 9 3 0 := ⟨(RX3, TX3, 3), rfl, by decide, rfl, uX3, Or.inl mw242⟩
theorem fl_X3_15 : FL RX3 15 3 1 := ⟨(RX3, TX3, 3), rfl, by decide, rfl, uX3, Or.inl mw243⟩
theorem fl_X3_18 : FL RX3 18 3 2 := ⟨(RX3, TX3, 3), rfl, by decide, rfl, uX3, Or.inl mw244⟩
theorem fl_X4_12 : FL RX4 12 4 1 := ⟨(RX4, TX4, 2), rfl, by decide, rfl, uX4, Or.inl mw322⟩
theorem fl_X4_18 : FL RX4 18 4 0 := ⟨(RX4, TX4, 2), rfl, by decide, rfl, uX4, Or.inl mw321⟩
theorem fl_X4_49 : FL RX4 49 3 2 := ⟨(RX3, TX3, 3), rfl, by decide, rfl, uX3, Or.inr ⟨"HeelHounds", mw245⟩⟩
theorem fl_X4_77 : FL RX4 77 10 3 := ⟨(RX10, TX10, 6), rfl, by decide, rfl, uX10, Or.inr ⟨"HeelHounds", mw211⟩⟩
theorem fl_X5_11 : FL RX5 11 5 0 := ⟨(RX5, TX5, 9), rfl, by decide, rfl, uX5, Or.inl mw341⟩
theorem fl_X5_15 : FL RX5 15 5 1 := ⟨(RX5, TX5, 9), rfl, by decide, rfl, uX5, Or.inl mw342⟩
theorem fl_X5_18 : FL RX5 18 5 2 := ⟨(RX5, TX5, 9), rfl, by decide, rfl, uX5, Or.inl mw343⟩
theorem fl_X5_21 : FL RX5 21 5 3 := ⟨(RX5, TX5, 9), rfl, by decide, rfl, uX5, Or.inl mw344⟩
theorem fl_X5_25 : FL RX5 25 5 4 := ⟨(RX5, TX5, 9), rfl, by decide, rfl, uX5, Or.inl mw347⟩
theorem fl_X5_28 : FL RX5 28 5 5 := ⟨(RX5, TX5, 9), rfl, by decide, rfl, uX5, Or.inl mw348⟩
theorem fl_X5_31 : FL RX5 31 5 6 := ⟨(RX5, TX5, 9), rfl, by decide, rfl, uX5, Or.inl mw349⟩
theorem fl_X5_34 : FL RX5 34 5 7 := ⟨(RX5, TX5, 9), rfl, by decide, rfl, uX5, Or.inl mw350⟩
theorem fl_X5_37 : FL RX5 37 5 8 := ⟨(RX5, TX5, 9), rfl, by decide, rfl, uX5, Or.inl mw351⟩
theorem fl_X6_12 : FL RX6 12 6 1 := ⟨(RX6, TX6, 2), rfl, by decide, rfl, uX6, Or.inl mw372⟩
theorem fl_X6_18 : FL RX6 18 6 0 := ⟨(RX6, TX6, 2), rfl, by decide, rfl, uX6, Or.inl mw371⟩
theorem fl_X6_45 : FL RX6 45 5 3 := ⟨(RX5, TX5, 9), rfl, by decide, rfl, uX5, Or.inr ⟨"HeelHounds", mw345⟩⟩
theorem fl_X7_9 : FL RX7 9 7 1 := ⟨(RX7, TX7, 3), rfl, by decide, rfl, uX7, Or.inl mw302⟩
theorem fl_X7_15 : FL RX7 15 7 2 := ⟨(RX7, TX7, 3), rfl, by decide, rfl, uX7, Or.inl mw304⟩
theorem fl_X7_19 : FL RX7 19 7 0 := ⟨(RX7, TX7, 3), rfl, by decide, rfl, uX7, Or.inl mw301⟩
theorem fl_X7_40 : FL RX7 40 10 3 := ⟨(RX10, TX10, 6), rfl, by decide, rfl, uX10, Or.inr ⟨"HeelHounds", mw210⟩⟩
theorem fl_X8_9 : FL RX8 9 8 0 := ⟨(RX8, TX8, 6), rfl, by decide, rfl, uX8, Or.inl mw431⟩
theorem fl_X8_15 : FL RX8 15 8 1 := ⟨(RX8, TX8, 6), rfl, by decide, rfl, uX8, Or.inl mw432⟩
theorem fl_X8_18 : FL RX8 18 8 2 := ⟨(RX8, TX8, 6), rfl, by decide, rfl, uX8, Or.inl mw433⟩
theorem fl_X8_21 : FL RX8 21 8 3 := ⟨(RX8, TX8, 6), rfl, by decide, rfl, uX8, Or.inl mw434⟩
theorem fl_X8_24 : FL RX8 24 8 4 := ⟨(RX8, TX8, 6), rfl, by decide, rfl, uX8, Or.inl mw435⟩
theorem fl_X8_28 : FL RX8 28 8 5 := ⟨(RX8, TX8, 6), rfl, by decide, rfl, uX8, Or.inl mw438⟩
theorem fl_X9_9 : FL RX9 9 9 1 := ⟨(RX9, TX9, 3), rfl, by decide, rfl, uX9, Or.inl mw413⟩
theorem fl_X9_15 : FL RX9 15 9 2 := ⟨(RX9, TX9, 3), rfl, by decide, rfl, uX9, Or.inl mw414⟩
theorem fl_X9_18 : FL RX9 18 9 0 := ⟨(RX9, TX9, 3), rfl, by decide, rfl, uX9, Or.inl mw412⟩
theorem fl_X9_28 : FL RX9 28 1 3 := ⟨(RX1, TX1, 5), rfl, by decide, rfl, uX1, Or.inr ⟨"HeelHounds", mw264⟩⟩
theorem fl_X9_74 : FL RX9 74 0 1 := ⟨(RX0, TX0, 3), rfl, by decide, rfl, uX0, Or.inr ⟨"HeelHounds", mw285⟩⟩
theorem fl_X10_9 : FL RX10 9 10 0 := ⟨(RX10, TX10, 6), rfl, by decide, rfl, uX10, Or.inl mw205⟩
theorem fl_X10_15 : FL RX10 15 10 1 := ⟨(RX10, TX10, 6), rfl, by decide, rfl, uX10, Or.inl mw206⟩
theorem fl_X10_19 : FL RX10 19 10 2 := ⟨(RX10, TX10, 6), rfl, by decide, rfl, uX10, Or.inl mw208⟩
theorem fl_X10_22 : FL RX10 22 10 3 := ⟨(RX10, TX10, 6), rfl, by decide, rfl, uX10, Or.inl mw209⟩
theorem fl_X10_25 : FL RX10 25 10 4 := ⟨(RX10, TX10, 6), rfl, by decide, rfl, uX10, Or.inl mw212⟩
theorem fl_X10_28 : FL RX10 28 10 5 := ⟨(RX10, TX10, 6), rfl, by decide, rfl, uX10, Or.inl mw213⟩
theorem fl_X12_7 : FL RX12 7 12 0 := ⟨(RX12, TX12, 56), rfl, by decide, rfl, uX12, Or.inl mw1226⟩
theorem fl_X12_13 : FL RX12 13 12 1 := ⟨(RX12, TX12, 56), rfl, by decide, rfl, uX12, Or.inl mw1227⟩
theorem fl_X12_16 : FL RX12 16 12 2 := ⟨(RX12, TX12, 56), rfl, by decide, rfl, uX12, Or.inl mw1228⟩
theorem fl_X12_19 : FL RX12 19 12 3 := ⟨(RX12, TX12, 56), rfl, by decide, rfl, uX12, Or.inl mw1229⟩
theorem fl_X12_22 : FL RX12 22 12 4 := ⟨(RX12, TX12, 56), rfl, by decide, rfl, uX12, Or.inl mw1230⟩
theorem fl_X12_25 : FL RX12 25 12 5 := ⟨(RX12, TX12, 56), rfl, by decide, rfl, uX12, Or.inl mw1231⟩
theorem fl_X12_28 : FL RX12 28 12 6 := ⟨(RX12, TX12, 56), rfl, by decide, rfl, uX12, Or.inl mw1232⟩
theorem fl_X12_31 : FL RX12 31 12 7 := ⟨(RX12, TX12, 56), rfl, by decide, rfl, uX12, Or.inl mw1233⟩
theorem fl_X12_34 : FL RX12 34 12 8 := ⟨(RX12, TX12, 56), rfl, by decide, rfl, uX12, Or.inl mw1234⟩
theorem fl_X12_37 : FL RX12 37 12 11 := ⟨(RX12, TX12, 56), rfl, by decide, rfl, uX12, Or.inl mw1237⟩
theorem fl_X12_41 : FL RX12 41 12 22 := ⟨(RX12, TX12, 56), rfl, by decide, rfl, uX12, Or.inl mw1248⟩
theorem fl_X12_44 : FL RX12 44 12 23 := ⟨(RX12, TX12, 56), rfl, by decide, rfl, uX12, Or.inl mw1249⟩
theorem fl_X12_47 : FL RX12 47 12 24 := ⟨(RX12, TX12, 56), rfl, by decide, rfl, uX12, Or.inl mw1250⟩
theorem fl_X12_50 : FL RX12 50 12 25 := ⟨(RX12, TX12, 56), rfl, by decide, rfl, uX12, Or.inl mw1251⟩
theorem fl_X12_53 : FL RX12 53 12 26 := ⟨(RX12, TX12, 56), rfl, by decide, rfl, uX12, Or.inl mw1252⟩
theorem fl_X12_56 : FL RX12 56 12 27 := ⟨(RX12, TX12, 56), rfl, by decide, rfl, uX12, Or.inl mw1253⟩
theorem fl_X12_59 : FL RX12 59 12 28 := ⟨(RX12, TX12, 56), rfl, by decide, rfl, uX12, Or.inl mw1254⟩
theorem fl_X12_62 : FL RX12 62 12 29 := ⟨(RX12, TX12, 56), rfl, by decide, rfl, uX12, Or.inl mw1255⟩
theorem fl_X12_65 : FL RX12 65 12 30 := ⟨(RX12, TX12, 56), rfl, by decide, rfl, uX12, Or.inl mw1256⟩
theorem fl_X12_68 : FL RX12 68 12 31 := ⟨(RX12, TX12, 56), rfl, by decide, rfl, uX12, Or.inl mw1257⟩
theorem fl_X12_71 : FL RX12 71 12 32 := ⟨(RX12, TX12, 56), rfl, by decide, rfl, uX12, Or.inl mw1258⟩
theorem fl_X12_74 : FL RX12 74 12 33 := ⟨(RX12, TX12, 56), rfl, by decide, rfl, uX12, Or.inl mw1259⟩
theorem fl_X12_77 : FL RX12 77 12 34 := ⟨(RX12, TX12, 56), rfl, by decide, rfl, uX12, Or.inl mw1260⟩
theorem fl_X12_80 : FL RX12 80 12 35 := ⟨(RX12, TX12, 56), rfl, by decide, rfl, uX12, Or.inl mw1261⟩
theorem fl_X12_83 : FL RX12 83 12 36 := ⟨(RX12, TX12, 56), rfl, by decide, rfl, uX12, Or.inl mw1262⟩
theorem fl_X12_86 : FL RX12 86 12 37 := ⟨(RX12, TX12, 56), rfl, by decide, rfl, uX12, Or.inl mw1263⟩
theorem fl_X12_89 : FL RX12 89 12 38 := ⟨(RX12, TX12, 56), rfl, by decide, rfl, uX12, Or.inl mw1264⟩
theorem fl_X12_92 : FL RX12 92 12 43 := ⟨(RX12, TX12, 56), rfl, by decide, rfl, uX12, Or.inl mw1269⟩
theorem fl_X12_95 : FL RX12 95 12 44 := ⟨(RX12, TX12, 56), rfl, by decide, rfl, uX12, Or.inl mw1270⟩
theorem fl_X12_98 : FL RX12 98 12 50 := ⟨(RX12, TX12, 56), rfl, by decide, rfl, uX12, Or.inl mw1276⟩
theorem fl_X12_101 : FL RX12 101 12 51 := ⟨(RX12, TX12, 56), rfl, by decide, rfl, uX12, Or.inl mw1277⟩
theorem fl_X12_104 : FL RX12 104 12 52 := ⟨(RX12, TX12, 56), rfl, by decide, rfl, uX12, Or.inl mw1278⟩
theorem fl_X12_107 : FL RX12 107 12 53 := ⟨(RX12, TX12, 56), rfl, by decide, rfl, uX12, Or.inl mw1279⟩
theorem fl_X12_110 : FL RX12 110 12 54 := ⟨(RX12, TX12, 56), rfl, by decide, rfl, uX12, Or.inl mw1280⟩
theorem fl_X12_114 : FL RX12 114 12 9 := ⟨(RX12, TX12, 56), rfl, by decide, rfl, uX12, Or.inl mw1235⟩
theorem fl_X12_130 : FL RX12 130 12 12 := ⟨(RX12, TX12, 56), rfl, by decide, rfl, uX12, Or.inl mw1238⟩
theorem fl_X12_137 : FL RX12 137 12 13 := ⟨(RX12, TX12, 56), rfl, by decide, rfl, uX12, Or.inl mw1239⟩
theorem fl_X12_140 : FL RX12 140 12 14 := ⟨(RX12, TX12, 56), rfl, by decide, rfl, uX12, Or.inl mw1240⟩
theorem fl_X12_147 : FL RX12 147 12 15 := ⟨(RX12, TX12, 56), rfl, by decide, rfl, uX12, Or.inl mw1241⟩
theorem fl_X12_153 : FL RX12 153 12 16 := ⟨(RX12, TX12, 56), rfl, by decide, rfl, uX12, Or.inl mw1242⟩
theorem fl_X12_160 : FL RX12 160 12 18 := ⟨(RX12, TX12, 56), rfl, by decide, rfl, uX12, Or.inl mw1244⟩
theorem fl_X12_164 : FL RX12 164 12 17 := ⟨(RX12, TX12, 56), rfl, by decide, rfl, uX12, Or.inl mw1243⟩
theorem fl_X12_167 : FL RX12 167 12 19 := ⟨(RX12, TX12, 56), rfl, by decide, rfl, uX12, Or.inl mw1245⟩
theorem fl_X12_215 : FL RX12 215 12 20 := ⟨(RX12, TX12, 56), rfl, by decide, rfl, uX12, Or.inl mw1246⟩
theorem fl_X12_230 : FL RX12 230 12 21 := ⟨(RX12, TX12, 56), rfl, by decide, rfl, uX12, Or.inl mw1247⟩
theorem fl_X12_241 : FL RX12 241 12 41 := ⟨(RX12, TX12, 56), rfl, by decide, rfl, uX12, Or.inl mw1267⟩
theorem fl_X12_244 : FL RX12 244 12 42 := ⟨(RX12, TX12, 56), rfl, by decide, rfl, uX12, Or.inl mw1268⟩
theorem fl_X12_247 : FL RX12 247 12 39 := ⟨(RX12, TX12, 56), rfl, by decide, rfl, uX12, Or.inl mw1265⟩
theorem fl_X12_253 : FL RX12 253 12 40 := ⟨(RX12, TX12, 56), rfl, by decide, rfl, uX12, Or.inl mw1266⟩
theorem fl_X12_271 : FL RX12 271 12 45 := ⟨(RX12, TX12, 56), rfl, by decide, rfl, uX12, Or.inl mw1271⟩
theorem fl_X12_280 : FL RX12 280 12 10 := ⟨(RX12, TX12, 56), rfl, by decide, rfl, uX12, Or.inl mw1236⟩
theorem fl_X12_298 : FL RX12 298 12 46 := ⟨(RX12, TX12, 56), rfl, by decide, rfl, uX12, Or.inl mw1272⟩
theorem fl_X12_301 : FL RX12 301 12 47 := ⟨(RX12, TX12, 56), rfl, by decide, rfl, uX12, Or.inl mw1273⟩
theorem fl_X12_304 : FL RX12 304 12 48 := ⟨(RX12, TX12, 56), rfl, by decide, rfl, uX12, Or.inl mw1274⟩
theorem fl_X12_317 : FL RX12 317 12 49 := ⟨(RX12, TX12, 56), rfl, by decide, rfl, uX12, Or.inl mw1275⟩
theorem fl_X12_406 : FL RX12 406 12 55 := ⟨(RX12, TX12, 56), rfl, by decide, rfl, uX12, Or.inl mw1281⟩
theorem fp_X0_2 : FP 0 2 .int := ⟨(RX0, TX0, 3), rfl, tyX0, tyX0_ok, nmX0, rfl, by decide +kernel⟩
theorem fp_X1_2 : FP 1 2 .boolean := ⟨(RX1, TX1, 5), rfl, tyX1, tyX1_ok, nmX1, rfl, by decide +kernel⟩
theorem fp_X1_3 : FP 1 3 .int := ⟨(RX1, TX1, 5), rfl, tyX1, tyX1_ok, nmX1, rfl, by decide +kernel⟩
theorem fp_X1_4 : FP 1 4 .int := ⟨(RX1, TX1, 5), rfl, tyX1, tyX1_ok, nmX1, rfl, by decide +kernel⟩
theorem fp_X10_1 : FP 10 1 .int := ⟨(RX10, TX10, 6), rfl, tyX10, tyX10_ok, nmX10, rfl, by decide +kernel⟩
theorem fp_X10_2 : FP 10 2 .int := ⟨(RX10, TX10, 6), rfl, tyX10, tyX10_ok, nmX10, rfl, by decide +kernel⟩
theorem fp_X10_3 : FP 10 3 .int := ⟨(RX10, TX10, 6), rfl, tyX10, tyX10_ok, nmX10, rfl, by decide +kernel⟩
theorem fp_X10_4 : FP 10 4 .int := ⟨(RX10, TX10, 6), rfl, tyX10, tyX10_ok, nmX10, rfl, by decide +kernel⟩
theorem fp_X10_5 : FP 10 5 .int := ⟨(RX10, TX10, 6), rfl, tyX10, tyX10_ok, nmX10, rfl, by decide +kernel⟩
theorem fp_X11_11 : FP 11 11 .boolean := ⟨(RX11, TX11, 12), rfl, tyX11, tyX11_ok, nmX11, rfl, by decide +kernel⟩
theorem fp_X12_9 : FP 12 9 .int := ⟨(RX12, TX12, 56), rfl, tyX12, tyX12_ok, nmX12, rfl, by decide +kernel⟩
theorem fp_X12_10 : FP 12 10 .int := ⟨(RX12, TX12, 56), rfl, tyX12, tyX12_ok, nmX12, rfl, by decide +kernel⟩
theorem fp_X12_12 : FP 12 12 .int := ⟨(RX12, TX12, 56), rfl, tyX12, tyX12_ok, nmX12, rfl, by decide +kernel⟩
theorem fp_X12_13 : FP 12 13 .int := ⟨(RX12, TX12, 56), rfl, tyX12, tyX12_ok, nmX12, rfl, by decide +kernel⟩
theorem fp_X12_14 : FP 12 14 .int := ⟨(RX12, TX12, 56), rfl, tyX12, tyX12_ok, nmX12, rfl, by decide +kernel⟩
theorem fp_X12_15 : FP 12 15 .int := ⟨(RX12, TX12, 56), rfl, tyX12, tyX12_ok, nmX12, rfl, by decide +kernel⟩
theorem fp_X12_16 : FP 12 16 .int := ⟨(RX12, TX12, 56), rfl, tyX12, tyX12_ok, nmX12, rfl, by decide +kernel⟩
theorem fp_X12_17 : FP 12 17 .int := ⟨(RX12, TX12, 56), rfl, tyX12, tyX12_ok, nmX12, rfl, by decide +kernel⟩
theorem fp_X12_18 : FP 12 18 .int := ⟨(RX12, TX12, 56), rfl, tyX12, tyX12_ok, nmX12, rfl, by decide +kernel⟩
theorem fp_X12_19 : FP 12 19 .int := ⟨(RX12, TX12, 56), rfl, tyX12, tyX12_ok, nmX12, rfl, by decide +kernel⟩
theorem fp_X12_20 : FP 12 20 .int := ⟨(RX12, TX12, 56), rfl, tyX12, tyX12_ok, nmX12, rfl, by decide +kernel⟩
theorem fp_X12_21 : FP 12 21 .int := ⟨(RX12, TX12, 56), rfl, tyX12, tyX12_ok, nmX12, rfl, by decide +kernel⟩
theorem fp_X12_39 : FP 12 39 .int := ⟨(RX12, TX12, 56), rfl, tyX12, tyX12_ok, nmX12, rfl, by decide +kernel⟩
theorem fp_X12_40 : FP 12 40 .int := ⟨(RX12, TX12, 56), rfl, tyX12, tyX12_ok, nmX12, rfl, by decide +kernel⟩
theorem fp_X12_41 : FP 12 41 .int := ⟨(RX12, TX12, 56), rfl, tyX12, tyX12_ok, nmX12, rfl, by decide +kernel⟩
theorem fp_X12_42 : FP 12 42 .int := ⟨(RX12, TX12, 56), rfl, tyX12, tyX12_ok, nmX12, rfl, by decide +kernel⟩
theorem fp_X12_45 : FP 12 45 .int := ⟨(RX12, TX12, 56), rfl, tyX12, tyX12_ok, nmX12, rfl, by decide +kernel⟩
theorem fp_X12_46 : FP 12 46 .int := ⟨(RX12, TX12, 56), rfl, tyX12, tyX12_ok, nmX12, rfl, by decide +kernel⟩
theorem fp_X12_47 : FP 12 47 .int := ⟨(RX12, TX12, 56), rfl, tyX12, tyX12_ok, nmX12, rfl, by decide +kernel⟩
theorem fp_X12_48 : FP 12 48 .int := ⟨(RX12, TX12, 56), rfl, tyX12, tyX12_ok, nmX12, rfl, by decide +kernel⟩
theorem fp_X12_49 : FP 12 49 .int := ⟨(RX12, TX12, 56), rfl, tyX12, tyX12_ok, nmX12, rfl, by decide +kernel⟩
theorem fp_X12_55 : FP 12 55 .boolean := ⟨(RX12, TX12, 56), rfl, tyX12, tyX12_ok, nmX12, rfl, by decide +kernel⟩
theorem fp_X2_2 : FP 2 2 .int := ⟨(RX2, TX2, 6), rfl, tyX2, tyX2_ok, nmX2, rfl, by decide +kernel⟩
theorem fp_X2_3 : FP 2 3 .int := ⟨(RX2, TX2, 6), rfl, tyX2, tyX2_ok, nmX2, rfl, by decide +kernel⟩
theorem fp_X2_4 : FP 2 4 .int := ⟨(RX2, TX2, 6), rfl, tyX2, tyX2_ok, nmX2, rfl, by decide +kernel⟩
theorem fp_X2_5 : FP 2 5 .int := ⟨(RX2, TX2, 6), rfl, tyX2, tyX2_ok, nmX2, rfl, by decide +kernel⟩
theorem fp_X3_2 : FP 3 2 .int := ⟨(RX3, TX3, 3), rfl, tyX3, tyX3_ok, nmX3, rfl, by decide +kernel⟩
theorem fp_X5_3 : FP 5 3 .int := ⟨(RX5, TX5, 9), rfl, tyX5, tyX5_ok, nmX5, rfl, by decide +kernel⟩
theorem fp_X5_6 : FP 5 6 .int := ⟨(RX5, TX5, 9), rfl, tyX5, tyX5_ok, nmX5, rfl, by decide +kernel⟩
theorem fp_X7_2 : FP 7 2 .int := ⟨(RX7, TX7, 3), rfl, tyX7, tyX7_ok, nmX7, rfl, by decide +kernel⟩
theorem fp_X8_4 : FP 8 4 .int := ⟨(RX8, TX8, 6), rfl, tyX8, tyX8_ok, nmX8, rfl, by decide +kernel⟩
theorem fp_X8_5 : FP 8 5 .int := ⟨(RX8, TX8, 6), rfl, tyX8, tyX8_ok, nmX8, rfl, by decide +kernel⟩
theorem ml_X11_88 : MLS RX11 88 iX11_isWithin 2 := ⟨⟨mw496, mw174, ⟨by decide, by decide, by decide +kernel⟩, by decide, Or.inl mw494⟩, mw495⟩
theorem ml_X11_92 : MLS RX11 92 iX11_isOnLand 2 := ⟨⟨mw499, mw174, ⟨by decide, by decide, by decide +kernel⟩, by decide, Or.inl mw497⟩, mw498⟩
theorem ml_X11_95 : MLS RX11 95 iX11_placeOf 2 := ⟨⟨mw502, mw174, ⟨by decide, by decide, by decide +kernel⟩, by decide, Or.inl mw500⟩, mw501⟩
theorem ml_X11_99 : MLV RX11 99 8 iX8_tell 2 := ⟨⟨mw506, mw185, ⟨by decide, by decide, by decide +kernel⟩, by decide, Or.inr ⟨"HeelHounds", mw503⟩⟩, ⟨_, rfl, rfl⟩, mw505, mw0⟩
theorem ml_X11_110 : MLV RX11 110 10 iX10_hasRoom 1 := ⟨⟨mw523, mw175, ⟨by decide, by decide, by decide +kernel⟩, by decide, Or.inr ⟨"HeelHounds", mw520⟩⟩, ⟨_, rfl, rfl⟩, mw522, mw1⟩
theorem ml_X11_114 : MLV RX11 114 10 iX10_append 1 := ⟨⟨mw527, mw175, ⟨by decide, by decide, by decide +kernel⟩, by decide, Or.inr ⟨"HeelHounds", mw524⟩⟩, ⟨_, rfl, rfl⟩, mw526, mw2⟩
theorem ml_X11_121 : MLV RX11 121 10 iX10_canTell 2 := ⟨⟨mw535, mw175, ⟨by decide, by decide, by decide +kernel⟩, by decide, Or.inr ⟨"HeelHounds", mw532⟩⟩, ⟨_, rfl, rfl⟩, mw534, mw3⟩
theorem ml_X11_124 : MLV RX11 124 10 iX10_open 1 := ⟨⟨mw543, mw175, ⟨by decide, by decide, by decide +kernel⟩, by decide, Or.inr ⟨"HeelHounds", mw540⟩⟩, ⟨_, rfl, rfl⟩, mw542, mw5⟩
theorem ml_X11_127 : MLV RX11 127 6 iX6_read 0 := ⟨⟨mw547, mw181, ⟨by decide, by decide, by decide +kernel⟩, by decide, Or.inr ⟨"HeelHounds", mw544⟩⟩, ⟨_, rfl, rfl⟩, mw546, mw6⟩
theorem ml_X11_130 : MLV RX11 130 10 iX10_empty 0 := ⟨⟨mw650, mw175, ⟨by decide, by decide, by decide +kernel⟩, by decide, Or.inr ⟨"HeelHounds", mw647⟩⟩, ⟨_, rfl, rfl⟩, mw649, mw28⟩
theorem ml_X11_133 : MLV RX11 133 10 iX10_isSound 0 := ⟨⟨mw654, mw175, ⟨by decide, by decide, by decide +kernel⟩, by decide, Or.inr ⟨"HeelHounds", mw651⟩⟩, ⟨_, rfl, rfl⟩, mw653, mw29⟩
theorem ml_X11_137 : MLV RX11 137 10 iX10_faultAnswer 0 := ⟨⟨mw658, mw175, ⟨by decide, by decide, by decide +kernel⟩, by decide, Or.inr ⟨"HeelHounds", mw655⟩⟩, ⟨_, rfl, rfl⟩, mw657, mw30⟩
theorem ml_X11_144 : MLV RX11 144 5 iX5_copyFrom 1 := ⟨⟨mw662, mw182, ⟨by decide, by decide, by decide +kernel⟩, by decide, Or.inr ⟨"HeelHounds", mw659⟩⟩, ⟨_, rfl, rfl⟩, mw661, mw31⟩
theorem ml_X11_151 : MLV RX11 151 0 iX0_courseOf 1 := ⟨⟨mw673, mw176, ⟨by decide, by decide, by decide +kernel⟩, by decide, Or.inr ⟨"HeelHounds", mw670⟩⟩, ⟨_, rfl, rfl⟩, mw672, mw32⟩
theorem ml_X11_155 : MLV RX11 155 7 iX7_read 0 := ⟨⟨mw678, mw179, ⟨by decide, by decide, by decide +kernel⟩, by decide, Or.inr ⟨"HeelHounds", mw675⟩⟩, ⟨_, rfl, rfl⟩, mw677, mw33⟩
theorem ml_X11_156 : MLV RX11 156 1 iX1_lay 3 := ⟨⟨mw715, mw178, ⟨by decide, by decide, by decide +kernel⟩, by decide, Or.inr ⟨"HeelHounds", mw712⟩⟩, ⟨_, rfl, rfl⟩, mw714, mw40⟩
theorem ml_X11_165 : MLV RX11 165 4 iX4_read 0 := ⟨⟨mw729, mw180, ⟨by decide, by decide, by decide +kernel⟩, by decide, Or.inr ⟨"HeelHounds", mw726⟩⟩, ⟨_, rfl, rfl⟩, mw728, mw41⟩
theorem ml_X11_172 : MLV RX11 172 3 iX3_copyFrom 1 := ⟨⟨mw773, mw177, ⟨by decide, by decide, by decide +kernel⟩, by decide, Or.inr ⟨"HeelHounds", mw770⟩⟩, ⟨_, rfl, rfl⟩, mw772, mw48⟩
theorem ml_X11_178 : MLV RX11 178 2 iX2_passMoment 1 := ⟨⟨mw782, mw183, ⟨by decide, by decide, by decide +kernel⟩, by decide, Or.inr ⟨"HeelHounds", mw779⟩⟩, ⟨_, rfl, rfl⟩, mw781, mw49⟩
theorem ml_X11_182 : MLV RX11 182 8 iX8_bitsOf 1 := ⟨⟨mw895, mw185, ⟨by decide, by decide, by decide +kernel⟩, by decide, Or.inr ⟨"HeelHounds", mw892⟩⟩, ⟨_, rfl, rfl⟩, mw894, mw74⟩
theorem ml_X11_186 : MLS RX11 186 iJ6_bitCount_0f7a4 1 := ⟨⟨mw898, mw190, ⟨by decide, by decide, by decide +kernel⟩, by decide, Or.inl mw896⟩, mw897⟩
theorem ml_X11_191 : MLV RX11 191 11 iX11_isTriable 1 := ⟨⟨mw909, mw174, ⟨by decide, by decide, by decide +kernel⟩, by decide, Or.inl mw906⟩, ⟨_, rfl, rfl⟩, mw908, mw75⟩
theorem ml_X11_194 : MLV RX11 194 8 iX8_copyFrom 1 := ⟨⟨mw918, mw185, ⟨by decide, by decide, by decide +kernel⟩, by decide, Or.inr ⟨"HeelHounds", mw915⟩⟩, ⟨_, rfl, rfl⟩, mw917, mw77⟩
theorem ml_X11_196 : MLV RX11 196 8 iX8_placeOfHound 1 := ⟨⟨mw802, mw185, ⟨by decide, by decide, by decide +kernel⟩, by decide, Or.inr ⟨"HeelHounds", mw920⟩⟩, ⟨_, rfl, rfl⟩, mw801, mw54⟩
theorem ml_X11_199 : MLV RX11 199 8 iX8_timeOf 1 := ⟨⟨mw860, mw185, ⟨by decide, by decide, by decide +kernel⟩, by decide, Or.inr ⟨"HeelHounds", mw921⟩⟩, ⟨_, rfl, rfl⟩, mw859, mw66⟩
theorem ml_X11_202 : MLV RX11 202 8 iX8_faultsOf 1 := ⟨⟨mw798, mw185, ⟨by decide, by decide, by decide +kernel⟩, by decide, Or.inr ⟨"HeelHounds", mw922⟩⟩, ⟨_, rfl, rfl⟩, mw797, mw53⟩
theorem ml_X11_205 : MLV RX11 205 8 iX8_isTold 1 := ⟨⟨mw913, mw185, ⟨by decide, by decide, by decide +kernel⟩, by decide, Or.inr ⟨"HeelHounds", mw910⟩⟩, ⟨_, rfl, rfl⟩, mw912, mw76⟩
theorem ml_X11_208 : MLV RX11 208 8 iX8_stateOf 1 := ⟨⟨mw786, mw185, ⟨by decide, by decide, by decide +kernel⟩, by decide, Or.inr ⟨"HeelHounds", mw927⟩⟩, ⟨_, rfl, rfl⟩, mw785, mw50⟩
theorem ml_X11_211 : MLV RX11 211 0 iX0_laid 1 := ⟨⟨mw850, mw176, ⟨by decide, by decide, by decide +kernel⟩, by decide, Or.inr ⟨"HeelHounds", mw932⟩⟩, ⟨_, rfl, rfl⟩, mw849, mw64⟩
theorem ml_X11_214 : MLV RX11 214 1 iX1_placeAt 1 := ⟨⟨mw868, mw178, ⟨by decide, by decide, by decide +kernel⟩, by decide, Or.inr ⟨"HeelHounds", mw933⟩⟩, ⟨_, rfl, rfl⟩, mw867, mw68⟩
theorem ml_X11_217 : MLV RX11 217 0 iX0_latestScent 2 := ⟨⟨mw941, mw176, ⟨by decide, by decide, by decide +kernel⟩, by decide, Or.inr ⟨"HeelHounds", mw938⟩⟩, ⟨_, rfl, rfl⟩, mw940, mw78⟩
theorem ml_X11_220 : MLV RX11 220 0 iX0_latestCreature 2 := ⟨⟨mw961, mw176, ⟨by decide, by decide, by decide +kernel⟩, by decide, Or.inr ⟨"HeelHounds", mw958⟩⟩, ⟨_, rfl, rfl⟩, mw960, mw81⟩
theorem ml_X11_223 : MLV RX11 223 0 iX0_scentsAt 2 := ⟨⟨mw966, mw176, ⟨by decide, by decide, by decide +kernel⟩, by decide, Or.inr ⟨"HeelHounds", mw963⟩⟩, ⟨_, rfl, rfl⟩, mw965, mw82⟩
theorem ml_X11_226 : MLV RX11 226 8 iX8_firstOf 1 := ⟨⟨mw974, mw185, ⟨by decide, by decide, by decide +kernel⟩, by decide, Or.inr ⟨"HeelHounds", mw971⟩⟩, ⟨_, rfl, rfl⟩, mw973, mw83⟩
theorem ml_X11_229 : MLV RX11 229 9 iX9_crossings 2 := ⟨⟨mw982, mw184, ⟨by decide, by decide, by decide +kernel⟩, by decide, Or.inr ⟨"HeelHounds", mw979⟩⟩, ⟨_, rfl, rfl⟩, mw981, mw84⟩
theorem ml_X11_233 : MLV RX11 233 9 iX9_firstWithin 3 := ⟨⟨mw998, mw184, ⟨by decide, by decide, by decide +kernel⟩, by decide, Or.inr ⟨"HeelHounds", mw995⟩⟩, ⟨_, rfl, rfl⟩, mw997, mw87⟩
theorem ml_X11_237 : MLV RX11 237 9 iX9_nearest 2 := ⟨⟨mw1016, mw184, ⟨by decide, by decide, by decide +kernel⟩, by decide, Or.inr ⟨"HeelHounds", mw1013⟩⟩, ⟨_, rfl, rfl⟩, mw1015, mw88⟩
theorem ml_X11_240 : MLV RX11 240 9 iX9_timesWithin 3 := ⟨⟨mw1024, mw184, ⟨by decide, by decide, by decide +kernel⟩, by decide, Or.inr ⟨"HeelHounds", mw1021⟩⟩, ⟨_, rfl, rfl⟩, mw1023, mw89⟩
theorem ml_X11_243 : MLV RX11 243 9 iX9_fullestPlace 1 := ⟨⟨mw1032, mw184, ⟨by decide, by decide, by decide +kernel⟩, by decide, Or.inr ⟨"HeelHounds", mw1029⟩⟩, ⟨_, rfl, rfl⟩, mw1031, mw90⟩
theorem ml_X11_246 : MLV RX11 246 0 iX0_creaturesAt 2 := ⟨⟨mw1037, mw176, ⟨by decide, by decide, by decide +kernel⟩, by decide, Or.inr ⟨"HeelHounds", mw1038⟩⟩, ⟨_, rfl, rfl⟩, mw1036, mw91⟩
theorem ml_X11_249 : MLV RX11 249 9 iX9_longestStay 1 := ⟨⟨mw1046, mw184, ⟨by decide, by decide, by decide +kernel⟩, by decide, Or.inr ⟨"HeelHounds", mw1043⟩⟩, ⟨_, rfl, rfl⟩, mw1045, mw92⟩
theorem ml_X11_253 : MLV RX11 253 1 iX1_timesAt 1 := ⟨⟨mw1050, mw178, ⟨by decide, by decide, by decide +kernel⟩, by decide, Or.inr ⟨"HeelHounds", mw1047⟩⟩, ⟨_, rfl, rfl⟩, mw1049, mw93⟩
theorem ml_X11_256 : MLV RX11 256 9 iX9_placesComeBackTo 1 := ⟨⟨mw1054, mw184, ⟨by decide, by decide, by decide +kernel⟩, by decide, Or.inr ⟨"HeelHounds", mw1051⟩⟩, ⟨_, rfl, rfl⟩, mw1053, mw94⟩
theorem ml_X11_259 : MLV RX11 259 9 iX9_unloop 1 := ⟨⟨mw1062, mw184, ⟨by decide, by decide, by decide +kernel⟩, by decide, Or.inr ⟨"HeelHounds", mw1059⟩⟩, ⟨_, rfl, rfl⟩, mw1061, mw95⟩
theorem ml_X11_262 : MLV RX11 262 9 iX9_rowAt 1 := ⟨⟨mw1066, mw184, ⟨by decide, by decide, by decide +kernel⟩, by decide, Or.inr ⟨"HeelHounds", mw1067⟩⟩, ⟨_, rfl, rfl⟩, mw1065, mw96⟩
theorem ml_X11_265 : MLV RX11 265 9 iX9_paidInAll 1 := ⟨⟨mw1075, mw184, ⟨by decide, by decide, by decide +kernel⟩, by decide, Or.inr ⟨"HeelHounds", mw1072⟩⟩, ⟨_, rfl, rfl⟩, mw1074, mw97⟩
theorem ml_X11_268 : MLV RX11 268 9 iX9_dearestField 1 := ⟨⟨mw1083, mw184, ⟨by decide, by decide, by decide +kernel⟩, by decide, Or.inr ⟨"HeelHounds", mw1080⟩⟩, ⟨_, rfl, rfl⟩, mw1082, mw99⟩
theorem ml_X11_271 : MLV RX11 271 9 iX9_paidFor 2 := ⟨⟨mw1087, mw184, ⟨by decide, by decide, by decide +kernel⟩, by decide, Or.inr ⟨"HeelHounds", mw1089⟩⟩, ⟨_, rfl, rfl⟩, mw1086, mw100⟩
theorem ml_X11_275 : MLS RX11 275 iX11_isPlace 1 := ⟨⟨mw768, mw174, ⟨by decide, by decide, by decide +kernel⟩, by decide, Or.inl mw1094⟩, mw767⟩
theorem ml_X11_278 : MLV RX11 278 9 iX9_stepsByLand 2 := ⟨⟨mw1098, mw184, ⟨by decide, by decide, by decide +kernel⟩, by decide, Or.inr ⟨"HeelHounds", mw1095⟩⟩, ⟨_, rfl, rfl⟩, mw1097, mw101⟩
theorem ml_X11_281 : MLV RX11 281 0 iX0_nearestScent 3 := ⟨⟨mw1116, mw176, ⟨by decide, by decide, by decide +kernel⟩, by decide, Or.inr ⟨"HeelHounds", mw1113⟩⟩, ⟨_, rfl, rfl⟩, mw1115, mw104⟩
theorem ml_X11_285 : MLV RX11 285 9 iX9_placesSmelling 2 := ⟨⟨mw1126, mw184, ⟨by decide, by decide, by decide +kernel⟩, by decide, Or.inr ⟨"HeelHounds", mw1123⟩⟩, ⟨_, rfl, rfl⟩, mw1125, mw105⟩
theorem ml_X11_288 : MLV RX11 288 10 iX10_has 1 := ⟨⟨mw539, mw175, ⟨by decide, by decide, by decide +kernel⟩, by decide, Or.inr ⟨"HeelHounds", mw1133⟩⟩, ⟨_, rfl, rfl⟩, mw538, mw4⟩
theorem ml_X11_291 : MLV RX11 291 10 iX10_byteAt 1 := ⟨⟨mw1137, mw175, ⟨by decide, by decide, by decide +kernel⟩, by decide, Or.inr ⟨"HeelHounds", mw1134⟩⟩, ⟨_, rfl, rfl⟩, mw1136, mw106⟩
theorem ml_X11_294 : MLV RX11 294 11 iX11_fitsFinds 3 := ⟨⟨mw1141, mw174, ⟨by decide, by decide, by decide +kernel⟩, by decide, Or.inl mw1138⟩, ⟨_, rfl, rfl⟩, mw1140, mw107⟩
theorem ml_X11_298 : MLV RX11 298 9 iX9_placesShutIn 1 := ⟨⟨mw1156, mw184, ⟨by decide, by decide, by decide +kernel⟩, by decide, Or.inr ⟨"HeelHounds", mw1153⟩⟩, ⟨_, rfl, rfl⟩, mw1155, mw109⟩
theorem ml_X11_301 : MLV RX11 301 1 iX1_turns 0 := ⟨⟨mw1167, mw178, ⟨by decide, by decide, by decide +kernel⟩, by decide, Or.inr ⟨"HeelHounds", mw1164⟩⟩, ⟨_, rfl, rfl⟩, mw1166, mw110⟩
theorem ml_X11_304 : MLV RX11 304 1 iX1_longestStraight 0 := ⟨⟨mw1171, mw178, ⟨by decide, by decide, by decide +kernel⟩, by decide, Or.inr ⟨"HeelHounds", mw1168⟩⟩, ⟨_, rfl, rfl⟩, mw1170, mw111⟩
theorem ml_X11_307 : MLV RX11 307 1 iX1_period 0 := ⟨⟨mw1175, mw178, ⟨by decide, by decide, by decide +kernel⟩, by decide, Or.inr ⟨"HeelHounds", mw1172⟩⟩, ⟨_, rfl, rfl⟩, mw1174, mw112⟩
theorem ml_X11_313 : MLV RX11 313 9 iX9_placesOn 1 := ⟨⟨mw1183, mw184, ⟨by decide, by decide, by decide +kernel⟩, by decide, Or.inr ⟨"HeelHounds", mw1180⟩⟩, ⟨_, rfl, rfl⟩, mw1182, mw114⟩
theorem ml_X11_316 : MLV RX11 316 1 iX1_last 0 := ⟨⟨mw855, mw178, ⟨by decide, by decide, by decide +kernel⟩, by decide, Or.inr ⟨"HeelHounds", mw1184⟩⟩, ⟨_, rfl, rfl⟩, mw854, mw65⟩
theorem ml_X11_319 : MLV RX11 319 3 iX3_kindAt 1 := ⟨⟨mw879, mw177, ⟨by decide, by decide, by decide +kernel⟩, by decide, Or.inr ⟨"HeelHounds", mw1189⟩⟩, ⟨_, rfl, rfl⟩, mw878, mw70⟩
theorem ml_X11_326 : MLV RX11 326 8 iX8_toldBits 0 := ⟨⟨mw1214, mw185, ⟨by decide, by decide, by decide +kernel⟩, by decide, Or.inr ⟨"HeelHounds", mw1211⟩⟩, ⟨_, rfl, rfl⟩, mw1213, mw115⟩
theorem ml_X11_329 : MLV RX11 329 0 iX0_laidBits 0 := ⟨⟨mw1219, mw176, ⟨by decide, by decide, by decide +kernel⟩, by decide, Or.inr ⟨"HeelHounds", mw1216⟩⟩, ⟨_, rfl, rfl⟩, mw1218, mw116⟩
theorem ml_X11_332 : MLV RX11 332 1 iX1_wasAt 3 := ⟨⟨mw1145, mw178, ⟨by decide, by decide, by decide +kernel⟩, by decide, Or.inr ⟨"HeelHounds", mw1142⟩⟩, ⟨_, rfl, rfl⟩, mw1144, mw108⟩
theorem ml_X0_29 : MLS RX0 29 iX11_isWithin 2 := ⟨⟨mw496, mw174, ⟨by decide, by decide, by decide +kernel⟩, by decide, Or.inr ⟨"HeelHounds", mw674⟩⟩, mw495⟩
theorem ml_X0_33 : MLV RX0 33 0 iX0_courseOf 1 := ⟨⟨mw673, mw176, ⟨by decide, by decide, by decide +kernel⟩, by decide, Or.inl mw851⟩, ⟨_, rfl, rfl⟩, mw672, mw32⟩
theorem ml_X0_41 : MLV RX0 41 0 iX0_laid 1 := ⟨⟨mw850, mw176, ⟨by decide, by decide, by decide +kernel⟩, by decide, Or.inl mw946⟩, ⟨_, rfl, rfl⟩, mw849, mw64⟩
theorem ml_X0_44 : MLS RX0 44 iX11_isPlace 1 := ⟨⟨mw768, mw174, ⟨by decide, by decide, by decide +kernel⟩, by decide, Or.inr ⟨"HeelHounds", mw954⟩⟩, mw767⟩
theorem ml_X0_48 : MLV RX0 48 1 iX1_placeAt 1 := ⟨⟨mw868, mw178, ⟨by decide, by decide, by decide +kernel⟩, by decide, Or.inr ⟨"HeelHounds", mw949⟩⟩, ⟨_, rfl, rfl⟩, mw867, mw68⟩
theorem ml_X0_52 : MLV RX0 52 3 iX3_isWater 1 := ⟨⟨mw875, mw177, ⟨by decide, by decide, by decide +kernel⟩, by decide, Or.inr ⟨"HeelHounds", mw955⟩⟩, ⟨_, rfl, rfl⟩, mw874, mw69⟩
theorem ml_X0_55 : MLV RX0 55 0 iX0_strength 2 := ⟨⟨mw864, mw176, ⟨by decide, by decide, by decide +kernel⟩, by decide, Or.inl mw956⟩, ⟨_, rfl, rfl⟩, mw863, mw67⟩
theorem ml_X0_59 : MLV RX0 59 1 iX1_last 0 := ⟨⟨mw855, mw178, ⟨by decide, by decide, by decide +kernel⟩, by decide, Or.inr ⟨"HeelHounds", mw947⟩⟩, ⟨_, rfl, rfl⟩, mw854, mw65⟩
theorem ml_X0_71 : MLV RX0 71 0 iX0_smells 3 := ⟨⟨mw953, mw176, ⟨by decide, by decide, by decide +kernel⟩, by decide, Or.inl mw950⟩, ⟨_, rfl, rfl⟩, mw952, mw80⟩
theorem ml_X0_75 : MLV RX0 75 0 iX0_latestOf 3 := ⟨⟨mw945, mw176, ⟨by decide, by decide, by decide +kernel⟩, by decide, Or.inl mw942⟩, ⟨_, rfl, rfl⟩, mw944, mw79⟩
theorem ml_X0_82 : MLV RX0 82 0 iX0_latestScent 2 := ⟨⟨mw941, mw176, ⟨by decide, by decide, by decide +kernel⟩, by decide, Or.inl mw962⟩, ⟨_, rfl, rfl⟩, mw940, mw78⟩
theorem ml_X0_85 : MLS RX0 85 iX11_across 2 := ⟨⟨mw1006, mw174, ⟨by decide, by decide, by decide +kernel⟩, by decide, Or.inr ⟨"HeelHounds", mw1117⟩⟩, mw1005⟩
theorem ml_X0_88 : MLS RX0 88 iX11_along 2 := ⟨⟨mw1012, mw174, ⟨by decide, by decide, by decide +kernel⟩, by decide, Or.inr ⟨"HeelHounds", mw1118⟩⟩, mw1011⟩
theorem ml_X1_39 : MLS RX1 39 iX11_beside 2 := ⟨⟨mw721, mw174, ⟨by decide, by decide, by decide +kernel⟩, by decide, Or.inr ⟨"HeelHounds", mw719⟩⟩, mw720⟩
theorem ml_X1_42 : MLV RX1 42 1 iX1_last 0 := ⟨⟨mw855, mw178, ⟨by decide, by decide, by decide +kernel⟩, by decide, Or.inl mw1146⟩, ⟨_, rfl, rfl⟩, mw854, mw65⟩
theorem ml_X1_49 : MLV RX1 49 1 iX1_placeAt 1 := ⟨⟨mw868, mw178, ⟨by decide, by decide, by decide +kernel⟩, by decide, Or.inl mw1148⟩, ⟨_, rfl, rfl⟩, mw867, mw68⟩
theorem ml_X1_53 : MLV RX1 53 1 iX1_repeatsAfter 1 := ⟨⟨mw1179, mw178, ⟨by decide, by decide, by decide +kernel⟩, by decide, Or.inl mw1176⟩, ⟨_, rfl, rfl⟩, mw1178, mw113⟩
theorem ml_X2_32 : MLV RX2 32 8 iX8_stateOf 1 := ⟨⟨mw786, mw185, ⟨by decide, by decide, by decide +kernel⟩, by decide, Or.inr ⟨"HeelHounds", mw783⟩⟩, ⟨_, rfl, rfl⟩, mw785, mw50⟩
theorem ml_X2_38 : MLV RX2 38 2 iX2_takeTurn 2 := ⟨⟨mw790, mw183, ⟨by decide, by decide, by decide +kernel⟩, by decide, Or.inl mw787⟩, ⟨_, rfl, rfl⟩, mw789, mw51⟩
theorem ml_X2_47 : MLV RX2 47 5 iX5_put 2 := ⟨⟨mw794, mw182, ⟨by decide, by decide, by decide +kernel⟩, by decide, Or.inr ⟨"HeelHounds", mw791⟩⟩, ⟨_, rfl, rfl⟩, mw793, mw52⟩
theorem ml_X2_51 : MLV RX2 51 8 iX8_faultsOf 1 := ⟨⟨mw798, mw185, ⟨by decide, by decide, by decide +kernel⟩, by decide, Or.inr ⟨"HeelHounds", mw795⟩⟩, ⟨_, rfl, rfl⟩, mw797, mw53⟩
theorem ml_X2_54 : MLV RX2 54 8 iX8_placeOfHound 1 := ⟨⟨mw802, mw185, ⟨by decide, by decide, by decide +kernel⟩, by decide, Or.inr ⟨"HeelHounds", mw799⟩⟩, ⟨_, rfl, rfl⟩, mw801, mw54⟩
theorem ml_X2_57 : MLV RX2 57 8 iX8_houndsAt 1 := ⟨⟨mw806, mw185, ⟨by decide, by decide, by decide +kernel⟩, by decide, Or.inr ⟨"HeelHounds", mw803⟩⟩, ⟨_, rfl, rfl⟩, mw805, mw55⟩
theorem ml_X2_60 : MLV RX2 60 5 iX5_givesUp 0 := ⟨⟨mw810, mw182, ⟨by decide, by decide, by decide +kernel⟩, by decide, Or.inr ⟨"HeelHounds", mw807⟩⟩, ⟨_, rfl, rfl⟩, mw809, mw56⟩
theorem ml_X2_64 : MLV RX2 64 8 iX8_lose 1 := ⟨⟨mw825, mw185, ⟨by decide, by decide, by decide +kernel⟩, by decide, Or.inr ⟨"HeelHounds", mw822⟩⟩, ⟨_, rfl, rfl⟩, mw824, mw59⟩
theorem ml_X2_68 : MLV RX2 68 5 iX5_worth 2 := ⟨⟨mw829, mw182, ⟨by decide, by decide, by decide +kernel⟩, by decide, Or.inr ⟨"HeelHounds", mw826⟩⟩, ⟨_, rfl, rfl⟩, mw828, mw60⟩
theorem ml_X2_72 : MLV RX2 72 8 iX8_draw 0 := ⟨⟨mw837, mw185, ⟨by decide, by decide, by decide +kernel⟩, by decide, Or.inr ⟨"HeelHounds", mw834⟩⟩, ⟨_, rfl, rfl⟩, mw836, mw61⟩
theorem ml_X2_76 : MLV RX2 76 2 iX2_follow 2 := ⟨⟨mw842, mw183, ⟨by decide, by decide, by decide +kernel⟩, by decide, Or.inl mw839⟩, ⟨_, rfl, rfl⟩, mw841, mw62⟩
theorem ml_X2_80 : MLV RX2 80 8 iX8_addFault 1 := ⟨⟨mw891, mw185, ⟨by decide, by decide, by decide +kernel⟩, by decide, Or.inr ⟨"HeelHounds", mw888⟩⟩, ⟨_, rfl, rfl⟩, mw890, mw73⟩
theorem ml_X2_83 : MLV RX2 83 2 iX2_weigh 3 := ⟨⟨mw846, mw183, ⟨by decide, by decide, by decide +kernel⟩, by decide, Or.inl mw843⟩, ⟨_, rfl, rfl⟩, mw845, mw63⟩
theorem ml_X2_87 : MLV RX2 87 0 iX0_laid 1 := ⟨⟨mw850, mw176, ⟨by decide, by decide, by decide +kernel⟩, by decide, Or.inr ⟨"HeelHounds", mw847⟩⟩, ⟨_, rfl, rfl⟩, mw849, mw64⟩
theorem ml_X2_98 : MLV RX2 98 1 iX1_placeAt 1 := ⟨⟨mw868, mw178, ⟨by decide, by decide, by decide +kernel⟩, by decide, Or.inr ⟨"HeelHounds", mw865⟩⟩, ⟨_, rfl, rfl⟩, mw867, mw68⟩
theorem ml_X2_101 : MLV RX2 101 8 iX8_move 4 := ⟨⟨mw887, mw185, ⟨by decide, by decide, by decide +kernel⟩, by decide, Or.inr ⟨"HeelHounds", mw884⟩⟩, ⟨_, rfl, rfl⟩, mw886, mw72⟩
theorem ml_X2_105 : MLV RX2 105 1 iX1_last 0 := ⟨⟨mw855, mw178, ⟨by decide, by decide, by decide +kernel⟩, by decide, Or.inr ⟨"HeelHounds", mw852⟩⟩, ⟨_, rfl, rfl⟩, mw854, mw65⟩
theorem ml_X2_113 : MLV RX2 113 8 iX8_timeOf 1 := ⟨⟨mw860, mw185, ⟨by decide, by decide, by decide +kernel⟩, by decide, Or.inr ⟨"HeelHounds", mw857⟩⟩, ⟨_, rfl, rfl⟩, mw859, mw66⟩
theorem ml_X2_116 : MLV RX2 116 0 iX0_strength 2 := ⟨⟨mw864, mw176, ⟨by decide, by decide, by decide +kernel⟩, by decide, Or.inr ⟨"HeelHounds", mw861⟩⟩, ⟨_, rfl, rfl⟩, mw863, mw67⟩
theorem ml_X2_119 : MLS RX2 119 iX11_wayTo 2 := ⟨⟨mw871, mw174, ⟨by decide, by decide, by decide +kernel⟩, by decide, Or.inr ⟨"HeelHounds", mw869⟩⟩, mw870⟩
theorem ml_X2_126 : MLV RX2 126 3 iX3_isWater 1 := ⟨⟨mw875, mw177, ⟨by decide, by decide, by decide +kernel⟩, by decide, Or.inr ⟨"HeelHounds", mw872⟩⟩, ⟨_, rfl, rfl⟩, mw874, mw69⟩
theorem ml_X2_132 : MLV RX2 132 2 iX2_isBetter 3 := ⟨⟨mw883, mw183, ⟨by decide, by decide, by decide +kernel⟩, by decide, Or.inl mw880⟩, ⟨_, rfl, rfl⟩, mw882, mw71⟩
theorem ml_X3_22 : MLS RX3 22 iJ7_fill_53178 2 := ⟨⟨mw430, mw186, ⟨by decide, by decide, by decide +kernel⟩, by decide, Or.inl mw734⟩, mw429⟩
theorem ml_X3_34 : MLS RX3 34 iX11_isPlace 1 := ⟨⟨mw768, mw174, ⟨by decide, by decide, by decide +kernel⟩, by decide, Or.inr ⟨"HeelHounds", mw766⟩⟩, mw767⟩
theorem ml_X3_38 : MLV RX3 38 3 iX3_kindAt 1 := ⟨⟨mw879, mw177, ⟨by decide, by decide, by decide +kernel⟩, by decide, Or.inl mw876⟩, ⟨_, rfl, rfl⟩, mw878, mw70⟩
theorem ml_X4_22 : MLV RX4 22 3 iX3_clear 0 := ⟨⟨mw733, mw177, ⟨by decide, by decide, by decide +kernel⟩, by decide, Or.inr ⟨"HeelHounds", mw730⟩⟩, ⟨_, rfl, rfl⟩, mw732, mw42⟩
theorem ml_X4_25 : MLV RX4 25 4 iX4_readOne 0 := ⟨⟨mw738, mw180, ⟨by decide, by decide, by decide +kernel⟩, by decide, Or.inl mw735⟩, ⟨_, rfl, rfl⟩, mw737, mw43⟩
theorem ml_X4_30 : MLV RX4 30 10 iX10_isAt 1 := ⟨⟨mw587, mw175, ⟨by decide, by decide, by decide +kernel⟩, by decide, Or.inr ⟨"HeelHounds", mw769⟩⟩, ⟨_, rfl, rfl⟩, mw586, mw16⟩
theorem ml_X4_34 : MLV RX4 34 10 iX10_expect 1 := ⟨⟨mw596, mw175, ⟨by decide, by decide, by decide +kernel⟩, by decide, Or.inr ⟨"HeelHounds", mw755⟩⟩, ⟨_, rfl, rfl⟩, mw595, mw18⟩
theorem ml_X4_38 : MLV RX4 38 10 iX10_sign 0 := ⟨⟨mw559, mw175, ⟨by decide, by decide, by decide +kernel⟩, by decide, Or.inr ⟨"HeelHounds", mw739⟩⟩, ⟨_, rfl, rfl⟩, mw558, mw9⟩
theorem ml_X4_42 : MLS RX4 42 iX4_kindOf 1 := ⟨⟨mw742, mw180, ⟨by decide, by decide, by decide +kernel⟩, by decide, Or.inl mw740⟩, mw741⟩
theorem ml_X4_46 : MLV RX4 46 10 iX10_failHere 1 := ⟨⟨mw563, mw175, ⟨by decide, by decide, by decide +kernel⟩, by decide, Or.inr ⟨"HeelHounds", mw743⟩⟩, ⟨_, rfl, rfl⟩, mw562, mw10⟩
theorem ml_X4_53 : MLV RX4 53 10 iX10_pass 0 := ⟨⟨mw567, mw175, ⟨by decide, by decide, by decide +kernel⟩, by decide, Or.inr ⟨"HeelHounds", mw744⟩⟩, ⟨_, rfl, rfl⟩, mw566, mw11⟩
theorem ml_X4_56 : MLV RX4 56 4 iX4_readPlaces 1 := ⟨⟨mw748, mw180, ⟨by decide, by decide, by decide +kernel⟩, by decide, Or.inl mw745⟩, ⟨_, rfl, rfl⟩, mw747, mw44⟩
theorem ml_X4_59 : MLV RX4 59 4 iX4_readBounded 2 := ⟨⟨mw752, mw180, ⟨by decide, by decide, by decide +kernel⟩, by decide, Or.inl mw749⟩, ⟨_, rfl, rfl⟩, mw751, mw45⟩
theorem ml_X4_63 : MLV RX4 63 4 iX4_readCharge 0 := ⟨⟨mw759, mw180, ⟨by decide, by decide, by decide +kernel⟩, by decide, Or.inl mw756⟩, ⟨_, rfl, rfl⟩, mw758, mw46⟩
theorem ml_X4_66 : MLV RX4 66 10 iX10_isSound 0 := ⟨⟨mw654, mw175, ⟨by decide, by decide, by decide +kernel⟩, by decide, Or.inr ⟨"HeelHounds", mw760⟩⟩, ⟨_, rfl, rfl⟩, mw653, mw29⟩
theorem ml_X4_70 : MLS RX4 70 iX11_placeOf 2 := ⟨⟨mw502, mw174, ⟨by decide, by decide, by decide +kernel⟩, by decide, Or.inr ⟨"HeelHounds", mw761⟩⟩, mw501⟩
theorem ml_X4_73 : MLV RX4 73 3 iX3_cover 3 := ⟨⟨mw765, mw177, ⟨by decide, by decide, by decide +kernel⟩, by decide, Or.inr ⟨"HeelHounds", mw762⟩⟩, ⟨_, rfl, rfl⟩, mw764, mw47⟩
theorem ml_X4_80 : MLV RX4 80 10 iX10_number 1 := ⟨⟨mw605, mw175, ⟨by decide, by decide, by decide +kernel⟩, by decide, Or.inr ⟨"HeelHounds", mw753⟩⟩, ⟨_, rfl, rfl⟩, mw604, mw19⟩
theorem ml_X4_83 : MLV RX4 83 10 iX10_failAt 2 := ⟨⟨mw706, mw175, ⟨by decide, by decide, by decide +kernel⟩, by decide, Or.inr ⟨"HeelHounds", mw754⟩⟩, ⟨_, rfl, rfl⟩, mw705, mw38⟩
theorem ml_X5_46 : MLV RX5 46 5 iX5_run 1 := ⟨⟨mw814, mw182, ⟨by decide, by decide, by decide +kernel⟩, by decide, Or.inl mw811⟩, ⟨_, rfl, rfl⟩, mw813, mw57⟩
theorem ml_X5_59 : MLV RX5 59 5 iX5_valueOf 1 := ⟨⟨mw818, mw182, ⟨by decide, by decide, by decide +kernel⟩, by decide, Or.inl mw815⟩, ⟨_, rfl, rfl⟩, mw817, mw58⟩
theorem ml_X5_62 : MLS RX5 62 iX5_combined 3 := ⟨⟨mw821, mw182, ⟨by decide, by decide, by decide +kernel⟩, by decide, Or.inl mw819⟩, mw820⟩
theorem ml_X6_22 : MLV RX6 22 5 iX5_clear 0 := ⟨⟨mw551, mw182, ⟨by decide, by decide, by decide +kernel⟩, by decide, Or.inr ⟨"HeelHounds", mw548⟩⟩, ⟨_, rfl, rfl⟩, mw550, mw7⟩
theorem ml_X6_25 : MLV RX6 25 6 iX6_readRule 0 := ⟨⟨mw555, mw181, ⟨by decide, by decide, by decide +kernel⟩, by decide, Or.inl mw552⟩, ⟨_, rfl, rfl⟩, mw554, mw8⟩
theorem ml_X6_30 : MLV RX6 30 10 iX10_isAt 1 := ⟨⟨mw587, mw175, ⟨by decide, by decide, by decide +kernel⟩, by decide, Or.inr ⟨"HeelHounds", mw584⟩⟩, ⟨_, rfl, rfl⟩, mw586, mw16⟩
theorem ml_X6_34 : MLV RX6 34 10 iX10_expect 1 := ⟨⟨mw596, mw175, ⟨by decide, by decide, by decide +kernel⟩, by decide, Or.inr ⟨"HeelHounds", mw593⟩⟩, ⟨_, rfl, rfl⟩, mw595, mw18⟩
theorem ml_X6_38 : MLV RX6 38 10 iX10_sign 0 := ⟨⟨mw559, mw175, ⟨by decide, by decide, by decide +kernel⟩, by decide, Or.inr ⟨"HeelHounds", mw556⟩⟩, ⟨_, rfl, rfl⟩, mw558, mw9⟩
theorem ml_X6_42 : MLV RX6 42 10 iX10_failHere 1 := ⟨⟨mw563, mw175, ⟨by decide, by decide, by decide +kernel⟩, by decide, Or.inr ⟨"HeelHounds", mw560⟩⟩, ⟨_, rfl, rfl⟩, mw562, mw10⟩
theorem ml_X6_49 : MLV RX6 49 10 iX10_pass 0 := ⟨⟨mw567, mw175, ⟨by decide, by decide, by decide +kernel⟩, by decide, Or.inr ⟨"HeelHounds", mw564⟩⟩, ⟨_, rfl, rfl⟩, mw566, mw11⟩
theorem ml_X6_52 : MLV RX6 52 5 iX5_beginWorth 1 := ⟨⟨mw571, mw182, ⟨by decide, by decide, by decide +kernel⟩, by decide, Or.inr ⟨"HeelHounds", mw568⟩⟩, ⟨_, rfl, rfl⟩, mw570, mw12⟩
theorem ml_X6_55 : MLV RX6 55 6 iX6_readSum 1 := ⟨⟨mw575, mw181, ⟨by decide, by decide, by decide +kernel⟩, by decide, Or.inl mw572⟩, ⟨_, rfl, rfl⟩, mw574, mw13⟩
theorem ml_X6_58 : MLV RX6 58 5 iX5_add 2 := ⟨⟨mw612, mw182, ⟨by decide, by decide, by decide +kernel⟩, by decide, Or.inr ⟨"HeelHounds", mw609⟩⟩, ⟨_, rfl, rfl⟩, mw611, mw20⟩
theorem ml_X6_62 : MLV RX6 62 5 iX5_beginTest 0 := ⟨⟨mw622, mw182, ⟨by decide, by decide, by decide +kernel⟩, by decide, Or.inr ⟨"HeelHounds", mw619⟩⟩, ⟨_, rfl, rfl⟩, mw621, mw21⟩
theorem ml_X6_65 : MLV RX6 65 6 iX6_readChoice 1 := ⟨⟨mw626, mw181, ⟨by decide, by decide, by decide +kernel⟩, by decide, Or.inl mw623⟩, ⟨_, rfl, rfl⟩, mw625, mw22⟩
theorem ml_X6_68 : MLV RX6 68 5 iX5_endRule 0 := ⟨⟨mw646, mw182, ⟨by decide, by decide, by decide +kernel⟩, by decide, Or.inr ⟨"HeelHounds", mw643⟩⟩, ⟨_, rfl, rfl⟩, mw645, mw27⟩
theorem ml_X6_71 : MLV RX6 71 6 iX6_readPart 1 := ⟨⟨mw630, mw181, ⟨by decide, by decide, by decide +kernel⟩, by decide, Or.inl mw627⟩, ⟨_, rfl, rfl⟩, mw629, mw23⟩
theorem ml_X6_74 : MLV RX6 74 5 iX5_settle 1 := ⟨⟨mw642, mw182, ⟨by decide, by decide, by decide +kernel⟩, by decide, Or.inr ⟨"HeelHounds", mw639⟩⟩, ⟨_, rfl, rfl⟩, mw641, mw26⟩
theorem ml_X6_77 : MLV RX6 77 6 iX6_readTest 1 := ⟨⟨mw634, mw181, ⟨by decide, by decide, by decide +kernel⟩, by decide, Or.inl mw631⟩, ⟨_, rfl, rfl⟩, mw633, mw24⟩
theorem ml_X6_80 : MLV RX6 80 6 iX6_opens 1 := ⟨⟨mw592, mw181, ⟨by decide, by decide, by decide +kernel⟩, by decide, Or.inl mw589⟩, ⟨_, rfl, rfl⟩, mw591, mw17⟩
theorem ml_X6_83 : MLV RX6 83 6 iX6_readComparison 1 := ⟨⟨mw638, mw181, ⟨by decide, by decide, by decide +kernel⟩, by decide, Or.inl mw635⟩, ⟨_, rfl, rfl⟩, mw637, mw25⟩
theorem ml_X6_86 : MLV RX6 86 6 iX6_readTerm 1 := ⟨⟨mw579, mw181, ⟨by decide, by decide, by decide +kernel⟩, by decide, Or.inl mw576⟩, ⟨_, rfl, rfl⟩, mw578, mw14⟩
theorem ml_X6_89 : MLS RX6 89 iX6_joinsTerms 1 := ⟨⟨mw618, mw181, ⟨by decide, by decide, by decide +kernel⟩, by decide, Or.inl mw616⟩, mw617⟩
theorem ml_X6_92 : MLV RX6 92 6 iX6_readFactor 1 := ⟨⟨mw583, mw181, ⟨by decide, by decide, by decide +kernel⟩, by decide, Or.inl mw580⟩, ⟨_, rfl, rfl⟩, mw582, mw15⟩
theorem ml_X6_95 : MLS RX6 95 iX6_joinsFactors 1 := ⟨⟨mw615, mw181, ⟨by decide, by decide, by decide +kernel⟩, by decide, Or.inl mw613⟩, mw614⟩
theorem ml_X6_98 : MLS RX6 98 iX6_letterOf 1 := ⟨⟨mw601, mw181, ⟨by decide, by decide, by decide +kernel⟩, by decide, Or.inl mw599⟩, mw600⟩
theorem ml_X6_102 : MLV RX6 102 10 iX10_number 1 := ⟨⟨mw605, mw175, ⟨by decide, by decide, by decide +kernel⟩, by decide, Or.inr ⟨"HeelHounds", mw602⟩⟩, ⟨_, rfl, rfl⟩, mw604, mw19⟩
theorem ml_X7_23 : MLV RX7 23 7 iX7_readSteps 1 := ⟨⟨mw682, mw179, ⟨by decide, by decide, by decide +kernel⟩, by decide, Or.inl mw679⟩, ⟨_, rfl, rfl⟩, mw681, mw34⟩
theorem ml_X7_29 : MLV RX7 29 7 iX7_readOne 1 := ⟨⟨mw686, mw179, ⟨by decide, by decide, by decide +kernel⟩, by decide, Or.inl mw683⟩, ⟨_, rfl, rfl⟩, mw685, mw35⟩
theorem ml_X7_32 : MLV RX7 32 10 iX10_isSound 0 := ⟨⟨mw654, mw175, ⟨by decide, by decide, by decide +kernel⟩, by decide, Or.inr ⟨"HeelHounds", mw695⟩⟩, ⟨_, rfl, rfl⟩, mw653, mw29⟩
theorem ml_X7_36 : MLV RX7 36 10 iX10_isAt 1 := ⟨⟨mw587, mw175, ⟨by decide, by decide, by decide +kernel⟩, by decide, Or.inr ⟨"HeelHounds", mw689⟩⟩, ⟨_, rfl, rfl⟩, mw586, mw16⟩
theorem ml_X7_43 : MLV RX7 43 10 iX10_sign 0 := ⟨⟨mw559, mw175, ⟨by decide, by decide, by decide +kernel⟩, by decide, Or.inr ⟨"HeelHounds", mw687⟩⟩, ⟨_, rfl, rfl⟩, mw558, mw9⟩
theorem ml_X7_47 : MLV RX7 47 10 iX10_pass 0 := ⟨⟨mw567, mw175, ⟨by decide, by decide, by decide +kernel⟩, by decide, Or.inr ⟨"HeelHounds", mw688⟩⟩, ⟨_, rfl, rfl⟩, mw566, mw11⟩
theorem ml_X7_50 : MLV RX7 50 7 iX7_readRound 1 := ⟨⟨mw693, mw179, ⟨by decide, by decide, by decide +kernel⟩, by decide, Or.inl mw690⟩, ⟨_, rfl, rfl⟩, mw692, mw36⟩
theorem ml_X7_53 : MLV RX7 53 7 iX7_readStep 1 := ⟨⟨mw699, mw179, ⟨by decide, by decide, by decide +kernel⟩, by decide, Or.inl mw696⟩, ⟨_, rfl, rfl⟩, mw698, mw37⟩
theorem ml_X7_56 : MLV RX7 56 7 iX7_repeat 3 := ⟨⟨mw710, mw179, ⟨by decide, by decide, by decide +kernel⟩, by decide, Or.inl mw707⟩, ⟨_, rfl, rfl⟩, mw709, mw39⟩
theorem ml_X7_60 : MLV RX7 60 10 iX10_failHere 1 := ⟨⟨mw563, mw175, ⟨by decide, by decide, by decide +kernel⟩, by decide, Or.inr ⟨"HeelHounds", mw694⟩⟩, ⟨_, rfl, rfl⟩, mw562, mw10⟩
theorem ml_X7_63 : MLS RX7 63 iX7_wayOf 1 := ⟨⟨mw702, mw179, ⟨by decide, by decide, by decide +kernel⟩, by decide, Or.inl mw700⟩, mw701⟩
theorem ml_X7_67 : MLV RX7 67 10 iX10_failAt 2 := ⟨⟨mw706, mw175, ⟨by decide, by decide, by decide +kernel⟩, by decide, Or.inr ⟨"HeelHounds", mw703⟩⟩, ⟨_, rfl, rfl⟩, mw705, mw38⟩
theorem ml_X8_43 : MLS RX8 43 iX11_isWithin 2 := ⟨⟨mw496, mw174, ⟨by decide, by decide, by decide +kernel⟩, by decide, Or.inr ⟨"HeelHounds", mw507⟩⟩, mw495⟩
theorem ml_X8_47 : MLV RX8 47 8 iX8_stateOf 1 := ⟨⟨mw786, mw185, ⟨by decide, by decide, by decide +kernel⟩, by decide, Or.inl mw914⟩, ⟨_, rfl, rfl⟩, mw785, mw50⟩
theorem ml_X8_51 : MLV RX8 51 8 iX8_bitsOf 1 := ⟨⟨mw895, mw185, ⟨by decide, by decide, by decide +kernel⟩, by decide, Or.inl mw1215⟩, ⟨_, rfl, rfl⟩, mw894, mw74⟩
theorem ml_X9_22 : MLS RX9 22 iJ7_fill_53178 2 := ⟨⟨mw430, mw186, ⟨by decide, by decide, by decide +kernel⟩, by decide, Or.inl mw983⟩, mw429⟩
theorem ml_X9_34 : MLV RX9 34 1 iX1_last 0 := ⟨⟨mw855, mw178, ⟨by decide, by decide, by decide +kernel⟩, by decide, Or.inr ⟨"HeelHounds", mw984⟩⟩, ⟨_, rfl, rfl⟩, mw854, mw65⟩
theorem ml_X9_38 : MLV RX9 38 1 iX1_placeAt 1 := ⟨⟨mw868, mw178, ⟨by decide, by decide, by decide +kernel⟩, by decide, Or.inr ⟨"HeelHounds", mw985⟩⟩, ⟨_, rfl, rfl⟩, mw867, mw68⟩
theorem ml_X9_42 : MLV RX9 42 9 iX9_markPlace 2 := ⟨⟨mw989, mw184, ⟨by decide, by decide, by decide +kernel⟩, by decide, Or.inl mw986⟩, ⟨_, rfl, rfl⟩, mw988, mw85⟩
theorem ml_X9_46 : MLV RX9 46 9 iX9_markAt 1 := ⟨⟨mw994, mw184, ⟨by decide, by decide, by decide +kernel⟩, by decide, Or.inl mw991⟩, ⟨_, rfl, rfl⟩, mw993, mw86⟩
theorem ml_X9_58 : MLS RX9 58 iX9_stepsApart 3 := ⟨⟨mw1003, mw184, ⟨by decide, by decide, by decide +kernel⟩, by decide, Or.inl mw1001⟩, mw1002⟩
theorem ml_X9_62 : MLV RX9 62 0 iX0_laid 1 := ⟨⟨mw850, mw176, ⟨by decide, by decide, by decide +kernel⟩, by decide, Or.inr ⟨"HeelHounds", mw1033⟩⟩, ⟨_, rfl, rfl⟩, mw849, mw64⟩
theorem ml_X9_68 : MLV RX9 68 0 iX0_creaturesAt 2 := ⟨⟨mw1037, mw176, ⟨by decide, by decide, by decide +kernel⟩, by decide, Or.inr ⟨"HeelHounds", mw1034⟩⟩, ⟨_, rfl, rfl⟩, mw1036, mw91⟩
theorem ml_X9_71 : MLV RX9 71 9 iX9_rowAt 1 := ⟨⟨mw1066, mw184, ⟨by decide, by decide, by decide +kernel⟩, by decide, Or.inl mw1063⟩, ⟨_, rfl, rfl⟩, mw1065, mw96⟩
theorem ml_X9_78 : MLV RX9 78 3 iX3_penceAt 1 := ⟨⟨mw1079, mw177, ⟨by decide, by decide, by decide +kernel⟩, by decide, Or.inr ⟨"HeelHounds", mw1076⟩⟩, ⟨_, rfl, rfl⟩, mw1078, mw98⟩
theorem ml_X9_83 : MLV RX9 83 3 iX3_kindAt 1 := ⟨⟨mw879, mw177, ⟨by decide, by decide, by decide +kernel⟩, by decide, Or.inr ⟨"HeelHounds", mw1088⟩⟩, ⟨_, rfl, rfl⟩, mw878, mw70⟩
theorem ml_X9_86 : MLV RX9 86 9 iX9_paidFor 2 := ⟨⟨mw1087, mw184, ⟨by decide, by decide, by decide +kernel⟩, by decide, Or.inl mw1084⟩, ⟨_, rfl, rfl⟩, mw1086, mw100⟩
theorem ml_X9_90 : MLV RX9 90 3 iX3_isWater 1 := ⟨⟨mw875, mw177, ⟨by decide, by decide, by decide +kernel⟩, by decide, Or.inr ⟨"HeelHounds", mw1099⟩⟩, ⟨_, rfl, rfl⟩, mw874, mw69⟩
theorem ml_X9_94 : MLV RX9 94 9 iX9_queue 2 := ⟨⟨mw1103, mw184, ⟨by decide, by decide, by decide +kernel⟩, by decide, Or.inl mw1100⟩, ⟨_, rfl, rfl⟩, mw1102, mw102⟩
theorem ml_X9_97 : MLV RX9 97 9 iX9_spread 1 := ⟨⟨mw1107, mw184, ⟨by decide, by decide, by decide +kernel⟩, by decide, Or.inl mw1104⟩, ⟨_, rfl, rfl⟩, mw1106, mw103⟩
theorem ml_X9_101 : MLS RX9 101 iX9_isOnEdge 1 := ⟨⟨mw1159, mw184, ⟨by decide, by decide, by decide +kernel⟩, by decide, Or.inl mw1157⟩, mw1158⟩
theorem ml_X9_104 : MLV RX9 104 0 iX0_strength 2 := ⟨⟨mw864, mw176, ⟨by decide, by decide, by decide +kernel⟩, by decide, Or.inr ⟨"HeelHounds", mw1127⟩⟩, ⟨_, rfl, rfl⟩, mw863, mw67⟩
theorem ml_X9_107 : MLV RX9 107 0 iX0_smells 3 := ⟨⟨mw953, mw176, ⟨by decide, by decide, by decide +kernel⟩, by decide, Or.inr ⟨"HeelHounds", mw1128⟩⟩, ⟨_, rfl, rfl⟩, mw952, mw80⟩
theorem ml_X9_111 : MLS RX9 111 iX11_beside 2 := ⟨⟨mw721, mw174, ⟨by decide, by decide, by decide +kernel⟩, by decide, Or.inr ⟨"HeelHounds", mw1108⟩⟩, mw720⟩
theorem ml_X9_114 : MLS RX9 114 iX11_isPlace 1 := ⟨⟨mw768, mw174, ⟨by decide, by decide, by decide +kernel⟩, by decide, Or.inr ⟨"HeelHounds", mw990⟩⟩, mw767⟩
theorem ml_X9_117 : MLS RX9 117 iX11_across 2 := ⟨⟨mw1006, mw174, ⟨by decide, by decide, by decide +kernel⟩, by decide, Or.inr ⟨"HeelHounds", mw1004⟩⟩, mw1005⟩
theorem ml_X9_120 : MLS RX9 120 iX11_along 2 := ⟨⟨mw1012, mw174, ⟨by decide, by decide, by decide +kernel⟩, by decide, Or.inr ⟨"HeelHounds", mw1010⟩⟩, mw1011⟩
theorem ml_X10_31 : MLV RX10 31 10 iX10_has 1 := ⟨⟨mw539, mw175, ⟨by decide, by decide, by decide +kernel⟩, by decide, Or.inl mw536⟩, ⟨_, rfl, rfl⟩, mw538, mw4⟩
theorem ml_X10_35 : MLV RX10 35 10 iX10_sign 0 := ⟨⟨mw559, mw175, ⟨by decide, by decide, by decide +kernel⟩, by decide, Or.inl mw588⟩, ⟨_, rfl, rfl⟩, mw558, mw9⟩
theorem ml_X10_39 : MLV RX10 39 10 iX10_pass 0 := ⟨⟨mw567, mw175, ⟨by decide, by decide, by decide +kernel⟩, by decide, Or.inl mw597⟩, ⟨_, rfl, rfl⟩, mw566, mw11⟩
theorem ml_X10_42 : MLV RX10 42 10 iX10_failHere 1 := ⟨⟨mw563, mw175, ⟨by decide, by decide, by decide +kernel⟩, by decide, Or.inl mw598⟩, ⟨_, rfl, rfl⟩, mw562, mw10⟩
theorem ml_X10_46 : MLS RX10 46 iX10_isDigit 1 := ⟨⟨mw608, mw175, ⟨by decide, by decide, by decide +kernel⟩, by decide, Or.inl mw606⟩, mw607⟩
theorem ml_X12_118 : MLS RX12 118 iX12_in 3 := ⟨⟨mw1403, mw187, ⟨by decide, by decide, by decide +kernel⟩, by decide, Or.inl mw1401⟩, mw1402⟩
theorem ml_X12_122 : MLV RX12 122 12 iX12_hasLine 1 := ⟨⟨mw1603, mw187, ⟨by decide, by decide, by decide +kernel⟩, by decide, Or.inl mw1600⟩, ⟨_, rfl, rfl⟩, mw1602, mw153⟩
theorem ml_X12_126 : MLS RX12 126 iX12_isPlace 2 := ⟨⟨mw1406, mw187, ⟨by decide, by decide, by decide +kernel⟩, by decide, Or.inl mw1404⟩, mw1405⟩
theorem ml_X12_133 : MLV RX12 133 12 iX12_types 1 := ⟨⟨mw1422, mw187, ⟨by decide, by decide, by decide +kernel⟩, by decide, Or.inl mw1419⟩, ⟨_, rfl, rfl⟩, mw1421, mw117⟩
theorem ml_X12_143 : MLV RX12 143 12 iX12_here 0 := ⟨⟨mw1438, mw187, ⟨by decide, by decide, by decide +kernel⟩, by decide, Or.inl mw1435⟩, ⟨_, rfl, rfl⟩, mw1437, mw120⟩
theorem ml_X12_150 : MLV RX12 150 12 iX12_wrongAt 2 := ⟨⟨mw1442, mw187, ⟨by decide, by decide, by decide +kernel⟩, by decide, Or.inl mw1439⟩, ⟨_, rfl, rfl⟩, mw1441, mw121⟩
theorem ml_X12_156 : MLV RX12 156 12 iX12_isDigit 0 := ⟨⟨mw1459, mw187, ⟨by decide, by decide, by decide +kernel⟩, by decide, Or.inl mw1456⟩, ⟨_, rfl, rfl⟩, mw1458, mw125⟩
theorem ml_X12_170 : MLV RX12 170 12 iX12_waitTop 0 := ⟨⟨mw1481, mw187, ⟨by decide, by decide, by decide +kernel⟩, by decide, Or.inl mw1478⟩, ⟨_, rfl, rfl⟩, mw1480, mw129⟩
theorem ml_X12_173 : MLV RX12 173 12 iX12_notes 2 := ⟨⟨mw1467, mw187, ⟨by decide, by decide, by decide +kernel⟩, by decide, Or.inl mw1464⟩, ⟨_, rfl, rfl⟩, mw1466, mw127⟩
theorem ml_X12_177 : MLV RX12 177 12 iX12_opens 1 := ⟨⟨mw1454, mw187, ⟨by decide, by decide, by decide +kernel⟩, by decide, Or.inl mw1451⟩, ⟨_, rfl, rfl⟩, mw1453, mw124⟩
theorem ml_X12_180 : MLV RX12 180 12 iX12_readsNumber 0 := ⟨⟨mw1463, mw187, ⟨by decide, by decide, by decide +kernel⟩, by decide, Or.inl mw1460⟩, ⟨_, rfl, rfl⟩, mw1462, mw126⟩
theorem ml_X12_183 : MLS RX12 183 iX12_factOf 1 := ⟨⟨mw1470, mw187, ⟨by decide, by decide, by decide +kernel⟩, by decide, Or.inl mw1468⟩, mw1469⟩
theorem ml_X12_187 : MLV RX12 187 12 iX12_readsFactor 0 := ⟨⟨mw1450, mw187, ⟨by decide, by decide, by decide +kernel⟩, by decide, Or.inl mw1447⟩, ⟨_, rfl, rfl⟩, mw1449, mw123⟩
theorem ml_X12_190 : MLS RX12 190 iX12_sumSign 1 := ⟨⟨mw1473, mw187, ⟨by decide, by decide, by decide +kernel⟩, by decide, Or.inl mw1471⟩, mw1472⟩
theorem ml_X12_193 : MLV RX12 193 12 iX12_closesSums 1 := ⟨⟨mw1477, mw187, ⟨by decide, by decide, by decide +kernel⟩, by decide, Or.inl mw1474⟩, ⟨_, rfl, rfl⟩, mw1476, mw128⟩
theorem ml_X12_197 : MLV RX12 197 12 iX12_hasOpenSum 1 := ⟨⟨mw1485, mw187, ⟨by decide, by decide, by decide +kernel⟩, by decide, Or.inl mw1482⟩, ⟨_, rfl, rfl⟩, mw1484, mw130⟩
theorem ml_X12_200 : MLV RX12 200 12 iX12_readsSum 0 := ⟨⟨mw1446, mw187, ⟨by decide, by decide, by decide +kernel⟩, by decide, Or.inl mw1443⟩, ⟨_, rfl, rfl⟩, mw1445, mw122⟩
theorem ml_X12_203 : MLV RX12 203 12 iX12_endsPiece 0 := ⟨⟨mw1497, mw187, ⟨by decide, by decide, by decide +kernel⟩, by decide, Or.inl mw1494⟩, ⟨_, rfl, rfl⟩, mw1496, mw133⟩
theorem ml_X12_206 : MLV RX12 206 12 iX12_readsCompared 0 := ⟨⟨mw1493, mw187, ⟨by decide, by decide, by decide +kernel⟩, by decide, Or.inl mw1490⟩, ⟨_, rfl, rfl⟩, mw1492, mw132⟩
theorem ml_X12_209 : MLV RX12 209 12 iX12_lands 1 := ⟨⟨mw1501, mw187, ⟨by decide, by decide, by decide +kernel⟩, by decide, Or.inl mw1498⟩, ⟨_, rfl, rfl⟩, mw1500, mw134⟩
theorem ml_X12_212 : MLV RX12 212 12 iX12_jumps 1 := ⟨⟨mw1505, mw187, ⟨by decide, by decide, by decide +kernel⟩, by decide, Or.inl mw1502⟩, ⟨_, rfl, rfl⟩, mw1504, mw135⟩
theorem ml_X12_218 : MLV RX12 218 12 iX12_readsCondition 0 := ⟨⟨mw1489, mw187, ⟨by decide, by decide, by decide +kernel⟩, by decide, Or.inl mw1486⟩, ⟨_, rfl, rfl⟩, mw1488, mw131⟩
theorem ml_X12_221 : MLV RX12 221 12 iX12_beginsText 1 := ⟨⟨mw1430, mw187, ⟨by decide, by decide, by decide +kernel⟩, by decide, Or.inl mw1427⟩, ⟨_, rfl, rfl⟩, mw1429, mw118⟩
theorem ml_X12_224 : MLV RX12 224 12 iX12_readsRule 0 := ⟨⟨mw1434, mw187, ⟨by decide, by decide, by decide +kernel⟩, by decide, Or.inl mw1431⟩, ⟨_, rfl, rfl⟩, mw1433, mw119⟩
theorem ml_X12_227 : MLV RX12 227 12 iX12_takes 1 := ⟨⟨mw1509, mw187, ⟨by decide, by decide, by decide +kernel⟩, by decide, Or.inl mw1506⟩, ⟨_, rfl, rfl⟩, mw1508, mw136⟩
theorem ml_X12_233 : MLS RX12 233 iX12_reckon 3 := ⟨⟨mw1590, mw187, ⟨by decide, by decide, by decide +kernel⟩, by decide, Or.inl mw1588⟩, mw1589⟩
theorem ml_X12_237 : MLV RX12 237 12 iX12_comesTo 2 := ⟨⟨mw1587, mw187, ⟨by decide, by decide, by decide +kernel⟩, by decide, Or.inl mw1584⟩, ⟨_, rfl, rfl⟩, mw1586, mw150⟩
theorem ml_X12_250 : MLV RX12 250 12 iX12_readsTimes 0 := ⟨⟨mw1521, mw187, ⟨by decide, by decide, by decide +kernel⟩, by decide, Or.inl mw1518⟩, ⟨_, rfl, rfl⟩, mw1520, mw138⟩
theorem ml_X12_256 : MLS RX12 256 iX12_wayOf 1 := ⟨⟨mw1524, mw187, ⟨by decide, by decide, by decide +kernel⟩, by decide, Or.inl mw1522⟩, mw1523⟩
theorem ml_X12_259 : MLV RX12 259 12 iX12_repeats 3 := ⟨⟨mw1528, mw187, ⟨by decide, by decide, by decide +kernel⟩, by decide, Or.inl mw1525⟩, ⟨_, rfl, rfl⟩, mw1527, mw139⟩
theorem ml_X12_262 : MLV RX12 262 12 iX12_readsStep 0 := ⟨⟨mw1517, mw187, ⟨by decide, by decide, by decide +kernel⟩, by decide, Or.inl mw1514⟩, ⟨_, rfl, rfl⟩, mw1516, mw137⟩
theorem ml_X12_265 : MLS RX12 265 iX12_beside 2 := ⟨⟨mw1531, mw187, ⟨by decide, by decide, by decide +kernel⟩, by decide, Or.inl mw1529⟩, mw1530⟩
theorem ml_X12_268 : MLV RX12 268 12 iX12_readsAmount 0 := ⟨⟨mw1547, mw187, ⟨by decide, by decide, by decide +kernel⟩, by decide, Or.inl mw1544⟩, ⟨_, rfl, rfl⟩, mw1546, mw142⟩
theorem ml_X12_274 : MLV RX12 274 12 iX12_readsWithin 3 := ⟨⟨mw1543, mw187, ⟨by decide, by decide, by decide +kernel⟩, by decide, Or.inl mw1540⟩, ⟨_, rfl, rfl⟩, mw1542, mw141⟩
theorem ml_X12_277 : MLV RX12 277 12 iX12_readsGround 0 := ⟨⟨mw1539, mw187, ⟨by decide, by decide, by decide +kernel⟩, by decide, Or.inl mw1536⟩, ⟨_, rfl, rfl⟩, mw1538, mw140⟩
theorem ml_X12_283 : MLS RX12 283 iX12_max 2 := ⟨⟨mw1614, mw187, ⟨by decide, by decide, by decide +kernel⟩, by decide, Or.inl mw1612⟩, mw1613⟩
theorem ml_X12_286 : MLV RX12 286 12 iX12_isHound 1 := ⟨⟨mw1567, mw187, ⟨by decide, by decide, by decide +kernel⟩, by decide, Or.inl mw1564⟩, ⟨_, rfl, rfl⟩, mw1566, mw145⟩
theorem ml_X12_289 : MLV RX12 289 12 iX12_houndsAt 1 := ⟨⟨mw1579, mw187, ⟨by decide, by decide, by decide +kernel⟩, by decide, Or.inl mw1576⟩, ⟨_, rfl, rfl⟩, mw1578, mw148⟩
theorem ml_X12_292 : MLV RX12 292 12 iX12_feels 1 := ⟨⟨mw1575, mw187, ⟨by decide, by decide, by decide +kernel⟩, by decide, Or.inl mw1572⟩, ⟨_, rfl, rfl⟩, mw1574, mw147⟩
theorem ml_X12_295 : MLV RX12 295 12 iX12_strengthOf 2 := ⟨⟨mw1611, mw187, ⟨by decide, by decide, by decide +kernel⟩, by decide, Or.inl mw1608⟩, ⟨_, rfl, rfl⟩, mw1610, mw155⟩
theorem ml_X12_307 : MLV RX12 307 12 iX12_feelsScent 3 := ⟨⟨mw1618, mw187, ⟨by decide, by decide, by decide +kernel⟩, by decide, Or.inl mw1615⟩, ⟨_, rfl, rfl⟩, mw1617, mw156⟩
theorem ml_X12_311 : MLV RX12 311 12 iX12_byLaw 2 := ⟨⟨mw1594, mw187, ⟨by decide, by decide, by decide +kernel⟩, by decide, Or.inl mw1591⟩, ⟨_, rfl, rfl⟩, mw1593, mw151⟩
theorem ml_X12_314 : MLV RX12 314 12 iX12_isBetter 3 := ⟨⟨mw1622, mw187, ⟨by decide, by decide, by decide +kernel⟩, by decide, Or.inl mw1619⟩, ⟨_, rfl, rfl⟩, mw1621, mw157⟩
theorem ml_X12_320 : MLV RX12 320 12 iX12_holdsAny 1 := ⟨⟨mw1583, mw187, ⟨by decide, by decide, by decide +kernel⟩, by decide, Or.inl mw1580⟩, ⟨_, rfl, rfl⟩, mw1582, mw149⟩
theorem ml_X12_324 : MLV RX12 324 12 iX12_isAtFault 1 := ⟨⟨mw1599, mw187, ⟨by decide, by decide, by decide +kernel⟩, by decide, Or.inl mw1596⟩, ⟨_, rfl, rfl⟩, mw1598, mw152⟩
theorem ml_X12_327 : MLV RX12 327 12 iX12_asksScents 4 := ⟨⟨mw1607, mw187, ⟨by decide, by decide, by decide +kernel⟩, by decide, Or.inl mw1604⟩, ⟨_, rfl, rfl⟩, mw1606, mw154⟩
theorem ml_X12_331 : MLV RX12 331 12 iX12_turnOf 1 := ⟨⟨mw1571, mw187, ⟨by decide, by decide, by decide +kernel⟩, by decide, Or.inl mw1568⟩, ⟨_, rfl, rfl⟩, mw1570, mw146⟩
theorem ml_X12_334 : MLV RX12 334 12 iX12_momentGoes 0 := ⟨⟨mw1563, mw187, ⟨by decide, by decide, by decide +kernel⟩, by decide, Or.inl mw1560⟩, ⟨_, rfl, rfl⟩, mw1562, mw144⟩
theorem ml_X12_337 : MLV RX12 337 12 iX12_momentsGo 1 := ⟨⟨mw1559, mw187, ⟨by decide, by decide, by decide +kernel⟩, by decide, Or.inl mw1556⟩, ⟨_, rfl, rfl⟩, mw1558, mw143⟩
theorem ml_X12_340 : MLV RX12 340 12 iX12_faring 1 := ⟨⟨mw1626, mw187, ⟨by decide, by decide, by decide +kernel⟩, by decide, Or.inl mw1623⟩, ⟨_, rfl, rfl⟩, mw1625, mw158⟩
theorem ml_X12_343 : MLS RX12 343 iX12_bits 1 := ⟨⟨mw1629, mw187, ⟨by decide, by decide, by decide +kernel⟩, by decide, Or.inl mw1627⟩, mw1628⟩
theorem ml_X12_346 : MLS RX12 346 iX12_copies 2 := ⟨⟨mw1636, mw187, ⟨by decide, by decide, by decide +kernel⟩, by decide, Or.inl mw1634⟩, mw1635⟩
theorem ml_X12_350 : MLS RX12 350 iX12_has 2 := ⟨⟨mw1650, mw187, ⟨by decide, by decide, by decide +kernel⟩, by decide, Or.inl mw1648⟩, mw1649⟩
theorem ml_X12_353 : MLS RX12 353 iX12_lowestOf 1 := ⟨⟨mw1647, mw187, ⟨by decide, by decide, by decide +kernel⟩, by decide, Or.inl mw1645⟩, mw1646⟩
theorem ml_X12_356 : MLV RX12 356 12 iX12_whereAt 2 := ⟨⟨mw1658, mw187, ⟨by decide, by decide, by decide +kernel⟩, by decide, Or.inl mw1655⟩, ⟨_, rfl, rfl⟩, mw1657, mw159⟩
theorem ml_X12_359 : MLS RX12 359 iX12_size 1 := ⟨⟨mw1685, mw187, ⟨by decide, by decide, by decide +kernel⟩, by decide, Or.inl mw1683⟩, mw1684⟩
theorem ml_X12_362 : MLV RX12 362 12 iX12_isOn 2 := ⟨⟨mw1678, mw187, ⟨by decide, by decide, by decide +kernel⟩, by decide, Or.inl mw1675⟩, ⟨_, rfl, rfl⟩, mw1677, mw162⟩
theorem ml_X12_365 : MLV RX12 365 12 iX12_areTwo 2 := ⟨⟨mw1670, mw187, ⟨by decide, by decide, by decide +kernel⟩, by decide, Or.inl mw1667⟩, ⟨_, rfl, rfl⟩, mw1669, mw160⟩
theorem ml_X12_368 : MLV RX12 368 12 iX12_crossedBy 2 := ⟨⟨mw1674, mw187, ⟨by decide, by decide, by decide +kernel⟩, by decide, Or.inl mw1671⟩, ⟨_, rfl, rfl⟩, mw1673, mw161⟩
theorem ml_X12_371 : MLV RX12 371 12 iX12_apartAt 3 := ⟨⟨mw1682, mw187, ⟨by decide, by decide, by decide +kernel⟩, by decide, Or.inl mw1679⟩, ⟨_, rfl, rfl⟩, mw1681, mw163⟩
theorem ml_X12_374 : MLV RX12 374 12 iX12_timesAt 2 := ⟨⟨mw1701, mw187, ⟨by decide, by decide, by decide +kernel⟩, by decide, Or.inl mw1698⟩, ⟨_, rfl, rfl⟩, mw1700, mw164⟩
theorem ml_X12_377 : MLV RX12 377 12 iX12_staysAt 2 := ⟨⟨mw1705, mw187, ⟨by decide, by decide, by decide +kernel⟩, by decide, Or.inl mw1702⟩, ⟨_, rfl, rfl⟩, mw1704, mw165⟩
theorem ml_X12_380 : MLV RX12 380 12 iX12_walksFrom 1 := ⟨⟨mw1721, mw187, ⟨by decide, by decide, by decide +kernel⟩, by decide, Or.inl mw1718⟩, ⟨_, rfl, rfl⟩, mw1720, mw166⟩
theorem ml_X12_383 : MLV RX12 383 12 iX12_octet 1 := ⟨⟨mw1737, mw187, ⟨by decide, by decide, by decide +kernel⟩, by decide, Or.inl mw1734⟩, ⟨_, rfl, rfl⟩, mw1736, mw167⟩
theorem ml_X12_386 : MLV RX12 386 12 iX12_hasBeen 4 := ⟨⟨mw1741, mw187, ⟨by decide, by decide, by decide +kernel⟩, by decide, Or.inl mw1738⟩, ⟨_, rfl, rfl⟩, mw1740, mw168⟩
theorem ml_X12_390 : MLS RX12 390 iX12_isAtEdge 1 := ⟨⟨mw1748, mw187, ⟨by decide, by decide, by decide +kernel⟩, by decide, Or.inl mw1746⟩, mw1747⟩
theorem ml_X12_393 : MLV RX12 393 12 iX12_turnsOf 1 := ⟨⟨mw1756, mw187, ⟨by decide, by decide, by decide +kernel⟩, by decide, Or.inl mw1753⟩, ⟨_, rfl, rfl⟩, mw1755, mw169⟩
theorem ml_X12_396 : MLV RX12 396 12 iX12_straightOf 1 := ⟨⟨mw1760, mw187, ⟨by decide, by decide, by decide +kernel⟩, by decide, Or.inl mw1757⟩, ⟨_, rfl, rfl⟩, mw1759, mw170⟩
theorem ml_X12_399 : MLV RX12 399 12 iX12_repeatsBy 1 := ⟨⟨mw1764, mw187, ⟨by decide, by decide, by decide +kernel⟩, by decide, Or.inl mw1761⟩, ⟨_, rfl, rfl⟩, mw1763, mw171⟩
theorem ml_X12_402 : MLV RX12 402 12 iX12_placesOf 1 := ⟨⟨mw1768, mw187, ⟨by decide, by decide, by decide +kernel⟩, by decide, Or.inl mw1765⟩, ⟨_, rfl, rfl⟩, mw1767, mw172⟩
section GXN
variable {I : HI} {d : Nat} {ρ : Type} {emb : ρ → Option HV × HMem} {pc : Nat} {lv : List (Option HV)} {st : List HV} {M : HMem}
theorem gx_ni {x : Int32} {K : Int32 → Option ρ} (kk : ∀ y, GX I d emb (K y) pc lv (.inl y :: st) M) : GX I d emb (hb1 (some x) K) pc lv (.inl x :: st) M := kk x
theorem gx_nm {K : HMem → Option ρ} (kk : ∀ M1, GX I d emb (K M1) pc lv st M1) : GX I d emb (hb1 (some M) K) pc lv st M := kk M
end GXN

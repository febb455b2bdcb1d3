def am_ms : List am_M := [m_L_law, m_B_init, m_R_init, m_A_init, m_Y_init, m_Q_init, m_B_put, m_B_isBank, m_B_isNumber, m_R_placeOf, m_R_holdsAt, m_R_versionAt, m_B_nextVersion, m_B_wordOf, m_R_store, m_R_copyRecord, m_B_drop, m_B_version, m_B_grams, m_B_size, m_B_word, m_B_sample, m_R_sampleAt, m_F_times, m_B_exchange, m_B_areTwoBanks, m_B_isReach, m_B_runExchange, m_A_find, m_A_takeSamples, m_Q_setRow, m_F_minus, m_F_plus, m_Q_solve, m_J_fill, m_Q_rowWithout0, m_Q_swapRows, m_F_inverse, m_Q_scaleRow, m_Q_clearColumn, m_Q_rightSidesAre0, m_Y_becomeSolution, m_Q_unknown, m_A_reduce, m_Y_become, m_Y_makeHighestOne, m_Y_becomeRemainder, m_Y_divideInPlace, m_Y_becomeQuotient, m_R_becomeZerosAmong, m_Y_valueAt, m_A_fitsSamples, m_B_deliverParcels, m_R_keepNewsFor, m_R_countWith, m_R_storeAll, m_B_list, m_B_runListing, m_R_becomeAllOf, m_B_settle, m_B_runSettling, m_B_spread, m_B_difference, m_R_wordsSharedWith, m_B_sent, m_B_degree, m_B_isPart, m_A_part, m_B_factor, m_M_init, m_M_put, m_M_isBank, m_M_isNumber, m_M_find, m_M_insert, m_M_drop, m_M_version, m_M_grams, m_M_size, m_M_word, m_M_wordAt, m_M_sample, m_M_sampleOf, m_M_point, m_M_mul, m_M_exchange, m_M_areTwo, m_M_isMany, m_M_exchanged, m_M_solved, m_M_allPairs, m_M_sift, m_M_valueOf, m_M_minus, m_M_inverse, m_M_take, m_M_removePair, m_M_choose, m_M_lead, m_M_scale, m_M_cancel, m_M_commonDivisor, m_M_divide, m_M_left, m_M_makePlain, m_M_checked, m_M_upAt, m_M_lowAt, m_M_offer, m_M_note, m_M_takeOver, m_M_list, m_M_listed, m_M_settle, m_M_settled, m_M_spread, m_M_difference, m_M_lacks, m_M_sent, m_M_degree, m_M_factor]
def Pg : am_P := (am_ms, am_Ft, am_Yt, am_Kt, am_Nt, am_St, 1, am_CN)
abbrev n_L_law : Nat := 0
theorem M_L_law : Pg.1[n_L_law]? = some m_L_law := rfl
abbrev n_B_init : Nat := 1
theorem M_B_init : Pg.1[n_B_init]? = some m_B_init := rfl
abbrev n_R_init : Nat := 2
theorem M_R_init : Pg.1[n_R_init]? = some m_R_init := rfl
abbrev n_A_init : Nat := 3
theorem M_A_init : Pg.1[n_A_init]? = some m_A_init := rfl
abbrev n_Y_init : Nat := 4
theorem M_Y_init : Pg.1[n_Y_init]? = some m_Y_init := rfl
abbrev n_Q_init : Nat := 5
theorem M_Q_init : Pg.1[n_Q_init]? = some m_Q_init := rfl
abbrev n_B_put : Nat := 6
theorem M_B_put : Pg.1[n_B_put]? = some m_B_put := rfl
abbrev n_B_isBank : Nat := 7
theorem M_B_isBank : Pg.1[n_B_isBank]? = some m_B_isBank := rfl
abbrev n_B_isNumber : Nat := 8
theorem M_B_isNumber : Pg.1[n_B_isNumber]? = some m_B_isNumber := rfl
abbrev n_R_placeOf : Nat := 9
theorem M_R_placeOf : Pg.1[n_R_placeOf]? = some m_R_placeOf := rfl
abbrev n_R_holdsAt : Nat := 10
theorem M_R_holdsAt : Pg.1[n_R_holdsAt]? = some m_R_holdsAt := rfl
abbrev n_R_versionAt : Nat := 11
theorem M_R_versionAt : Pg.1[n_R_versionAt]? = some m_R_versionAt := rfl
abbrev n_B_nextVersion : Nat := 12
theorem M_B_nextVersion : Pg.1[n_B_nextVersion]? = some m_B_nextVersion := rfl
abbrev n_B_wordOf : Nat := 13
theorem M_B_wordOf : Pg.1[n_B_wordOf]? = some m_B_wordOf := rfl
abbrev n_R_store : Nat := 14
theorem M_R_store : Pg.1[n_R_store]? = some m_R_store := rfl
abbrev n_R_copyRecord : Nat := 15
theorem M_R_copyRecord : Pg.1[n_R_copyRecord]? = some m_R_copyRecord := rfl
abbrev n_B_drop : Nat := 16
theorem M_B_drop : Pg.1[n_B_drop]? = some m_B_drop := rfl
abbrev n_B_version : Nat := 17
theorem M_B_version : Pg.1[n_B_version]? = some m_B_version := rfl
abbrev n_B_grams : Nat := 18
theorem M_B_grams : Pg.1[n_B_grams]? = some m_B_grams := rfl
abbrev n_B_size : Nat := 19
theorem M_B_size : Pg.1[n_B_size]? = some m_B_size := rfl
abbrev n_B_word : Nat := 20
theorem M_B_word : Pg.1[n_B_word]? = some m_B_word := rfl
abbrev n_B_sample : Nat := 21
theorem M_B_sample : Pg.1[n_B_sample]? = some m_B_sample := rfl
abbrev n_R_sampleAt : Nat := 22
theorem M_R_sampleAt : Pg.1[n_R_sampleAt]? = some m_R_sampleAt := rfl
abbrev n_F_times : Nat := 23
theorem M_F_times : Pg.1[n_F_times]? = some m_F_times := rfl
abbrev n_B_exchange : Nat := 24
theorem M_B_exchange : Pg.1[n_B_exchange]? = some m_B_exchange := rfl
abbrev n_B_areTwoBanks : Nat := 25
theorem M_B_areTwoBanks : Pg.1[n_B_areTwoBanks]? = some m_B_areTwoBanks := rfl
abbrev n_B_isReach : Nat := 26
theorem M_B_isReach : Pg.1[n_B_isReach]? = some m_B_isReach := rfl
abbrev n_B_runExchange : Nat := 27
theorem M_B_runExchange : Pg.1[n_B_runExchange]? = some m_B_runExchange := rfl
abbrev n_A_find : Nat := 28
theorem M_A_find : Pg.1[n_A_find]? = some m_A_find := rfl
abbrev n_A_takeSamples : Nat := 29
theorem M_A_takeSamples : Pg.1[n_A_takeSamples]? = some m_A_takeSamples := rfl
abbrev n_Q_setRow : Nat := 30
theorem M_Q_setRow : Pg.1[n_Q_setRow]? = some m_Q_setRow := rfl
abbrev n_F_minus : Nat := 31
theorem M_F_minus : Pg.1[n_F_minus]? = some m_F_minus := rfl
abbrev n_F_plus : Nat := 32
theorem M_F_plus : Pg.1[n_F_plus]? = some m_F_plus := rfl
abbrev n_Q_solve : Nat := 33
theorem M_Q_solve : Pg.1[n_Q_solve]? = some m_Q_solve := rfl
abbrev n_J_fill : Nat := 34
theorem M_J_fill : Pg.1[n_J_fill]? = some m_J_fill := rfl
abbrev n_Q_rowWithout0 : Nat := 35
theorem M_Q_rowWithout0 : Pg.1[n_Q_rowWithout0]? = some m_Q_rowWithout0 := rfl
abbrev n_Q_swapRows : Nat := 36
theorem M_Q_swapRows : Pg.1[n_Q_swapRows]? = some m_Q_swapRows := rfl
abbrev n_F_inverse : Nat := 37
theorem M_F_inverse : Pg.1[n_F_inverse]? = some m_F_inverse := rfl
abbrev n_Q_scaleRow : Nat := 38
theorem M_Q_scaleRow : Pg.1[n_Q_scaleRow]? = some m_Q_scaleRow := rfl
abbrev n_Q_clearColumn : Nat := 39
theorem M_Q_clearColumn : Pg.1[n_Q_clearColumn]? = some m_Q_clearColumn := rfl
abbrev n_Q_rightSidesAre0 : Nat := 40
theorem M_Q_rightSidesAre0 : Pg.1[n_Q_rightSidesAre0]? = some m_Q_rightSidesAre0 := rfl
abbrev n_Y_becomeSolution : Nat := 41
theorem M_Y_becomeSolution : Pg.1[n_Y_becomeSolution]? = some m_Y_becomeSolution := rfl
abbrev n_Q_unknown : Nat := 42
theorem M_Q_unknown : Pg.1[n_Q_unknown]? = some m_Q_unknown := rfl
abbrev n_A_reduce : Nat := 43
theorem M_A_reduce : Pg.1[n_A_reduce]? = some m_A_reduce := rfl
abbrev n_Y_become : Nat := 44
theorem M_Y_become : Pg.1[n_Y_become]? = some m_Y_become := rfl
abbrev n_Y_makeHighestOne : Nat := 45
theorem M_Y_makeHighestOne : Pg.1[n_Y_makeHighestOne]? = some m_Y_makeHighestOne := rfl
abbrev n_Y_becomeRemainder : Nat := 46
theorem M_Y_becomeRemainder : Pg.1[n_Y_becomeRemainder]? = some m_Y_becomeRemainder := rfl
abbrev n_Y_divideInPlace : Nat := 47
theorem M_Y_divideInPlace : Pg.1[n_Y_divideInPlace]? = some m_Y_divideInPlace := rfl
abbrev n_Y_becomeQuotient : Nat := 48
theorem M_Y_becomeQuotient : Pg.1[n_Y_becomeQuotient]? = some m_Y_becomeQuotient := rfl
abbrev n_R_becomeZerosAmong : Nat := 49
theorem M_R_becomeZerosAmong : Pg.1[n_R_becomeZerosAmong]? = some m_R_becomeZerosAmong := rfl
abbrev n_Y_valueAt : Nat := 50
theorem M_Y_valueAt : Pg.1[n_Y_valueAt]? = some m_Y_valueAt := rfl
abbrev n_A_fitsSamples : Nat := 51
theorem M_A_fitsSamples : Pg.1[n_A_fitsSamples]? = some m_A_fitsSamples := rfl
abbrev n_B_deliverParcels : Nat := 52
theorem M_B_deliverParcels : Pg.1[n_B_deliverParcels]? = some m_B_deliverParcels := rfl
abbrev n_R_keepNewsFor : Nat := 53
theorem M_R_keepNewsFor : Pg.1[n_R_keepNewsFor]? = some m_R_keepNewsFor := rfl
abbrev n_R_countWith : Nat := 54
theorem M_R_countWith : Pg.1[n_R_countWith]? = some m_R_countWith := rfl
abbrev n_R_storeAll : Nat := 55
theorem M_R_storeAll : Pg.1[n_R_storeAll]? = some m_R_storeAll := rfl
abbrev n_B_list : Nat := 56
theorem M_B_list : Pg.1[n_B_list]? = some m_B_list := rfl
abbrev n_B_runListing : Nat := 57
theorem M_B_runListing : Pg.1[n_B_runListing]? = some m_B_runListing := rfl
abbrev n_R_becomeAllOf : Nat := 58
theorem M_R_becomeAllOf : Pg.1[n_R_becomeAllOf]? = some m_R_becomeAllOf := rfl
abbrev n_B_settle : Nat := 59
theorem M_B_settle : Pg.1[n_B_settle]? = some m_B_settle := rfl
abbrev n_B_runSettling : Nat := 60
theorem M_B_runSettling : Pg.1[n_B_runSettling]? = some m_B_runSettling := rfl
abbrev n_B_spread : Nat := 61
theorem M_B_spread : Pg.1[n_B_spread]? = some m_B_spread := rfl
abbrev n_B_difference : Nat := 62
theorem M_B_difference : Pg.1[n_B_difference]? = some m_B_difference := rfl
abbrev n_R_wordsSharedWith : Nat := 63
theorem M_R_wordsSharedWith : Pg.1[n_R_wordsSharedWith]? = some m_R_wordsSharedWith := rfl
abbrev n_B_sent : Nat := 64
theorem M_B_sent : Pg.1[n_B_sent]? = some m_B_sent := rfl
abbrev n_B_degree : Nat := 65
theorem M_B_degree : Pg.1[n_B_degree]? = some m_B_degree := rfl
abbrev n_B_isPart : Nat := 66
theorem M_B_isPart : Pg.1[n_B_isPart]? = some m_B_isPart := rfl
abbrev n_A_part : Nat := 67
theorem M_A_part : Pg.1[n_A_part]? = some m_A_part := rfl
abbrev n_B_factor : Nat := 68
theorem M_B_factor : Pg.1[n_B_factor]? = some m_B_factor := rfl
abbrev n_M_init : Nat := 69
theorem M_M_init : Pg.1[n_M_init]? = some m_M_init := rfl
abbrev n_M_put : Nat := 70
theorem M_M_put : Pg.1[n_M_put]? = some m_M_put := rfl
abbrev n_M_isBank : Nat := 71
theorem M_M_isBank : Pg.1[n_M_isBank]? = some m_M_isBank := rfl
abbrev n_M_isNumber : Nat := 72
theorem M_M_isNumber : Pg.1[n_M_isNumber]? = some m_M_isNumber := rfl
abbrev n_M_find : Nat := 73
theorem M_M_find : Pg.1[n_M_find]? = some m_M_find := rfl
abbrev n_M_insert : Nat := 74
theorem M_M_insert : Pg.1[n_M_insert]? = some m_M_insert := rfl
abbrev n_M_drop : Nat := 75
theorem M_M_drop : Pg.1[n_M_drop]? = some m_M_drop := rfl
abbrev n_M_version : Nat := 76
theorem M_M_version : Pg.1[n_M_version]? = some m_M_version := rfl
abbrev n_M_grams : Nat := 77
theorem M_M_grams : Pg.1[n_M_grams]? = some m_M_grams := rfl
abbrev n_M_size : Nat := 78
theorem M_M_size : Pg.1[n_M_size]? = some m_M_size := rfl
abbrev n_M_word : Nat := 79
theorem M_M_word : Pg.1[n_M_word]? = some m_M_word := rfl
abbrev n_M_wordAt : Nat := 80
theorem M_M_wordAt : Pg.1[n_M_wordAt]? = some m_M_wordAt := rfl
abbrev n_M_sample : Nat := 81
theorem M_M_sample : Pg.1[n_M_sample]? = some m_M_sample := rfl
abbrev n_M_sampleOf : Nat := 82
theorem M_M_sampleOf : Pg.1[n_M_sampleOf]? = some m_M_sampleOf := rfl
abbrev n_M_point : Nat := 83
theorem M_M_point : Pg.1[n_M_point]? = some m_M_point := rfl
abbrev n_M_mul : Nat := 84
theorem M_M_mul : Pg.1[n_M_mul]? = some m_M_mul := rfl
abbrev n_M_exchange : Nat := 85
theorem M_M_exchange : Pg.1[n_M_exchange]? = some m_M_exchange := rfl
abbrev n_M_areTwo : Nat := 86
theorem M_M_areTwo : Pg.1[n_M_areTwo]? = some m_M_areTwo := rfl
abbrev n_M_isMany : Nat := 87
theorem M_M_isMany : Pg.1[n_M_isMany]? = some m_M_isMany := rfl
abbrev n_M_exchanged : Nat := 88
theorem M_M_exchanged : Pg.1[n_M_exchanged]? = some m_M_exchanged := rfl
abbrev n_M_solved : Nat := 89
theorem M_M_solved : Pg.1[n_M_solved]? = some m_M_solved := rfl
abbrev n_M_allPairs : Nat := 90
theorem M_M_allPairs : Pg.1[n_M_allPairs]? = some m_M_allPairs := rfl
abbrev n_M_sift : Nat := 91
theorem M_M_sift : Pg.1[n_M_sift]? = some m_M_sift := rfl
abbrev n_M_valueOf : Nat := 92
theorem M_M_valueOf : Pg.1[n_M_valueOf]? = some m_M_valueOf := rfl
abbrev n_M_minus : Nat := 93
theorem M_M_minus : Pg.1[n_M_minus]? = some m_M_minus := rfl
abbrev n_M_inverse : Nat := 94
theorem M_M_inverse : Pg.1[n_M_inverse]? = some m_M_inverse := rfl
abbrev n_M_take : Nat := 95
theorem M_M_take : Pg.1[n_M_take]? = some m_M_take := rfl
abbrev n_M_removePair : Nat := 96
theorem M_M_removePair : Pg.1[n_M_removePair]? = some m_M_removePair := rfl
abbrev n_M_choose : Nat := 97
theorem M_M_choose : Pg.1[n_M_choose]? = some m_M_choose := rfl
abbrev n_M_lead : Nat := 98
theorem M_M_lead : Pg.1[n_M_lead]? = some m_M_lead := rfl
abbrev n_M_scale : Nat := 99
theorem M_M_scale : Pg.1[n_M_scale]? = some m_M_scale := rfl
abbrev n_M_cancel : Nat := 100
theorem M_M_cancel : Pg.1[n_M_cancel]? = some m_M_cancel := rfl
abbrev n_M_commonDivisor : Nat := 101
theorem M_M_commonDivisor : Pg.1[n_M_commonDivisor]? = some m_M_commonDivisor := rfl
abbrev n_M_divide : Nat := 102
theorem M_M_divide : Pg.1[n_M_divide]? = some m_M_divide := rfl
abbrev n_M_left : Nat := 103
theorem M_M_left : Pg.1[n_M_left]? = some m_M_left := rfl
abbrev n_M_makePlain : Nat := 104
theorem M_M_makePlain : Pg.1[n_M_makePlain]? = some m_M_makePlain := rfl
abbrev n_M_checked : Nat := 105
theorem M_M_checked : Pg.1[n_M_checked]? = some m_M_checked := rfl
abbrev n_M_upAt : Nat := 106
theorem M_M_upAt : Pg.1[n_M_upAt]? = some m_M_upAt := rfl
abbrev n_M_lowAt : Nat := 107
theorem M_M_lowAt : Pg.1[n_M_lowAt]? = some m_M_lowAt := rfl
abbrev n_M_offer : Nat := 108
theorem M_M_offer : Pg.1[n_M_offer]? = some m_M_offer := rfl
abbrev n_M_note : Nat := 109
theorem M_M_note : Pg.1[n_M_note]? = some m_M_note := rfl
abbrev n_M_takeOver : Nat := 110
theorem M_M_takeOver : Pg.1[n_M_takeOver]? = some m_M_takeOver := rfl
abbrev n_M_list : Nat := 111
theorem M_M_list : Pg.1[n_M_list]? = some m_M_list := rfl
abbrev n_M_listed : Nat := 112
theorem M_M_listed : Pg.1[n_M_listed]? = some m_M_listed := rfl
abbrev n_M_settle : Nat := 113
theorem M_M_settle : Pg.1[n_M_settle]? = some m_M_settle := rfl
abbrev n_M_settled : Nat := 114
theorem M_M_settled : Pg.1[n_M_settled]? = some m_M_settled := rfl
abbrev n_M_spread : Nat := 115
theorem M_M_spread : Pg.1[n_M_spread]? = some m_M_spread := rfl
abbrev n_M_difference : Nat := 116
theorem M_M_difference : Pg.1[n_M_difference]? = some m_M_difference := rfl
abbrev n_M_lacks : Nat := 117
theorem M_M_lacks : Pg.1[n_M_lacks]? = some m_M_lacks := rfl
abbrev n_M_sent : Nat := 118
theorem M_M_sent : Pg.1[n_M_sent]? = some m_M_sent := rfl
abbrev n_M_degree : Nat := 119
theorem M_M_degree : Pg.1[n_M_degree]? = some m_M_degree := rfl
abbrev n_M_factor : Nat := 120
theorem M_M_factor : Pg.1[n_M_factor]? = some m_M_factor := rfl

/-- a method: its name, code, locals, what it answers, and how: 0 nothing, 1 an int, 2 a boolean, 3 a reference -/
abbrev ab_M : Type := MethodName × ByteArray × Nat × Option FieldType × Nat
def ab_ms : List ab_M := [
  (yX0_init, cX0_init, 1, none, 0),
  (yX3_init, cX3_init, 2, none, 0),
  (yX6_init, cX6_init, 6, none, 0),
  (yX6_noteLook, cX6_noteLook, 3, none, 0),
  (yX7_init, cX7_init, 1, none, 0),
  (yX7_home, cX7_home, 4, (some .int), 1),
  (yX7_work, cX7_work, 5, (some .int), 1),
  (yX7_rule, cX7_rule, 4, (some .boolean), 2),
  (yX7_wish, cX7_wish, 6, (some .int), 1),
  (yX7_look, cX7_look, 4, (some .int), 1),
  (yX8_init, cX8_init, 1, none, 0),
  (yJx4a65c_grow_92f84, cJx4a65c_grow_92f84, 4, (some (.array (.object "java/lang/Object"))), 3),
  (yJx4a65c_grow_d5877, cJx4a65c_grow_d5877, 1, (some (.array (.object "java/lang/Object"))), 3),
  (yJx4a65c_add_72be8, cJx4a65c_add_72be8, 4, none, 0),
  (yJx4a65c_add_9ea2d, cJx4a65c_add_9ea2d, 2, (some .boolean), 2),
  (yJ7_copyOf_1904c, cJ7_copyOf_1904c, 2, (some (.array (.object "java/lang/Object"))), 3),
  (yJ7_copyOf_6403c, cJ7_copyOf_6403c, 4, (some (.array (.object "java/lang/Object"))), 3),
  (yX0_start, cX0_start, 2, none, 0),
  (yX0_add, cX0_add, 4, none, 0),
  (yX0_lastOfFarthest, cX0_lastOfFarthest, 3, (some .int), 1),
  (yX0_drop, cX0_drop, 3, none, 0),
  (yX1_init, cX1_init, 5, none, 0),
  (yX1_hasRoomFor, cX1_hasRoomFor, 2, (some .boolean), 2),
  (yX2_init, cX2_init, 4, none, 0),
  (yX2_shows, cX2_shows, 2, (some .boolean), 2),
  (yX3_clear, cX3_clear, 1, none, 0),
  (yX3_canBeAsked, cX3_canBeAsked, 1, (some .boolean), 2),
  (yX3_add, cX3_add, 4, none, 0),
  (yX3_placeFor, cX3_placeFor, 3, (some .int), 1),
  (yX3_startAt, cX3_startAt, 5, none, 0),
  (yX3_make, cX3_make, 1, none, 0),
  (yX3_choose, cX3_choose, 8, none, 0),
  (yX3_keepIfBetter, cX3_keepIfBetter, 4, none, 0),
  (yX3_wishFor, cX3_wishFor, 3, (some (.object "PicturesLent$Wish")), 3),
  (yX4_init, cX4_init, 4, none, 0),
  (yX4_canBe, cX4_canBe, 2, (some .boolean), 2),
  (yX5_init, cX5_init, 5, none, 0),
  (yX5_canBeServed, cX5_canBeServed, 1, (some .boolean), 2),
  (yX5_rankBy, cX5_rankBy, 3, (some .int), 1),
  (yX5_refuse, cX5_refuse, 3, none, 0),
  (yX6_isLent, cX6_isLent, 1, (some .boolean), 2),
  (yX6_isGivenUp, cX6_isGivenUp, 1, (some .boolean), 2),
  (yX6_canBeWishedBy, cX6_canBeWishedBy, 2, (some .boolean), 2),
  (yX6_lendTo, cX6_lendTo, 4, none, 0),
  (yX6_leaveHome, cX6_leaveHome, 2, none, 0),
  (yX6_comeBack, cX6_comeBack, 2, none, 0),
  (yX6_daysInStores, cX6_daysInStores, 2, (some .int), 1),
  (yX6_daysLate, cX6_daysLate, 2, (some .int), 1),
  (yX6_rentBy, cX6_rentBy, 4, (some .int), 1),
  (yX6_priceFor, cX6_priceFor, 2, (some .int), 1),
  (yX7_far, cX7_far, 4, (some .boolean), 2),
  (yX7_go, cX7_go, 2, (some .int), 1),
  (yX7_unwish, cX7_unwish, 3, (some .boolean), 2),
  (yX7_rank, cX7_rank, 3, (some .int), 1),
  (yX7_next, cX7_next, 3, (some .int), 1),
  (yX7_offer, cX7_offer, 4, (some .boolean), 2),
  (yX7_back, cX7_back, 4, (some .int), 1),
  (yX7_sell, cX7_sell, 5, (some .int), 1),
  (yX7_lose, cX7_lose, 4, (some .boolean), 2),
  (yX7_pay, cX7_pay, 4, (some .int), 1),
  (yX7_blame, cX7_blame, 5, (some .int), 1),
  (yX7_planned, cX7_planned, 4, (some .int), 1),
  (yX7_miles, cX7_miles, 1, (some .int), 1),
  (yX7_told, cX7_told, 4, (some .int), 1),
  (yX7_homed, cX7_homed, 4, (some .int), 1),
  (yX7_wished, cX7_wished, 4, (some .int), 1),
  (yX7_artist, cX7_artist, 2, (some .int), 1),
  (yX7_count, cX7_count, 2, (some .int), 1),
  (yX7_within, cX7_within, 3, (some .boolean), 2),
  (yX7_isTown, cX7_isTown, 1, (some .boolean), 2),
  (yX7_isArtist, cX7_isArtist, 1, (some .boolean), 2),
  (yX7_homeOf, cX7_homeOf, 2, (some (.object "PicturesLent$Home")), 3),
  (yX7_workOf, cX7_workOf, 2, (some (.object "PicturesLent$Work")), 3),
  (yX7_lentWork, cX7_lentWork, 3, (some (.object "PicturesLent$Work")), 3),
  (yX7_wishOf, cX7_wishOf, 2, (some (.object "PicturesLent$Wish")), 3),
  (yX7_openWish, cX7_openWish, 3, (some (.object "PicturesLent$Wish")), 3),
  (yX7_ruleOn, cX7_ruleOn, 5, (some (.object "PicturesLent$Rule")), 3),
  (yX7_hasOpenWish, cX7_hasOpenWish, 5, (some .boolean), 2),
  (yX7_openWishes, cX7_openWishes, 3, (some .int), 1),
  (yX7_nextFor, cX7_nextFor, 8, (some (.object "PicturesLent$Wish")), 3),
  (yX7_milesFor, cX7_milesFor, 2, (some .int), 1),
  (yX7_chargeRent, cX7_chargeRent, 4, (some .int), 1),
  (yX7_giveUp, cX7_giveUp, 5, none, 0),
  (yX7_makePlan, cX7_makePlan, 3, (some .boolean), 2),
  (yX8_in, cX8_in, 3, (some .boolean), 2),
  (yX8_isHome, cX8_isHome, 2, (some .boolean), 2),
  (yX8_isWork, cX8_isWork, 2, (some .boolean), 2),
  (yX8_far, cX8_far, 4, (some .boolean), 2),
  (yX8_home, cX8_home, 3, (some .int), 1),
  (yX8_work, cX8_work, 4, (some .int), 1),
  (yX8_rule, cX8_rule, 7, (some .boolean), 2),
  (yX8_ruled, cX8_ruled, 5, (some .int), 1),
  (yX8_go, cX8_go, 2, (some .int), 1),
  (yX8_openOf, cX8_openOf, 4, (some .int), 1),
  (yX8_wish, cX8_wish, 3, (some .int), 1),
  (yX8_isOpen, cX8_isOpen, 2, (some .boolean), 2),
  (yX8_unwish, cX8_unwish, 2, (some .boolean), 2),
  (yX8_rankOf, cX8_rankOf, 2, (some .int), 1),
  (yX8_rank, cX8_rank, 2, (some .int), 1),
  (yX8_points, cX8_points, 2, (some .int), 1),
  (yX8_lent, cX8_lent, 5, (some .int), 1),
  (yX8_hasRoom, cX8_hasRoom, 3, (some .boolean), 2),
  (yX8_next, cX8_next, 4, (some .int), 1),
  (yX8_offer, cX8_offer, 5, (some .boolean), 2),
  (yX8_rented, cX8_rented, 5, (some .int), 1),
  (yX8_isLent, cX8_isLent, 2, (some .boolean), 2),
  (yX8_back, cX8_back, 3, (some .int), 1),
  (yX8_ends, cX8_ends, 4, none, 0),
  (yX8_sell, cX8_sell, 5, (some .int), 1),
  (yX8_lose, cX8_lose, 3, (some .boolean), 2),
  (yX8_pay, cX8_pay, 3, (some .int), 1),
  (yX8_look, cX8_look, 5, (some .int), 1),
  (yX8_blame, cX8_blame, 7, (some .int), 1),
  (yX8_couldHave, cX8_couldHave, 3, (some .boolean), 2),
  (yX8_tries, cX8_tries, 7, none, 0),
  (yX8_plans, cX8_plans, 4, (some .boolean), 2),
  (yX8_planned, cX8_planned, 3, (some .int), 1),
  (yX8_miles, cX8_miles, 1, (some .int), 1),
  (yX8_told, cX8_told, 4, (some .int), 1),
  (yX8_homed, cX8_homed, 3, (some .int), 1),
  (yX8_wished, cX8_wished, 3, (some .int), 1),
  (yX8_artist, cX8_artist, 2, (some .int), 1),
  (yX8_count, cX8_count, 4, (some .int), 1),
  (yJ9_max_7cf53, cJ9_max_7cf53, 2, (some .int), 1),
  (yJ9_min_7cf53, cJ9_min_7cf53, 2, (some .int), 1),
  (yJxa1e45_init_da8c8, cJxa1e45_init_da8c8, 1, none, 0),
  (yJxc12de_init_da8c8, cJxc12de_init_da8c8, 1, none, 0),
  (yJx4a65c_init_da8c8, cJx4a65c_init_da8c8, 1, none, 0),
  (yJx4a65c_size_8abf5, cJx4a65c_size_8abf5, 1, (some .int), 1),
  (yJx4a65c_elementData_915e3, cJx4a65c_elementData_915e3, 2, (some (.object "java/lang/Object")), 3),
  (yJx4a65c_get_915e3, cJx4a65c_get_915e3, 2, (some (.object "java/lang/Object")), 3),
  (yJ15_checkIndex_7cf53, cJ15_checkIndex_7cf53, 2, (some .int), 1),
  (yJ8_newLength_cabcc, cJ8_newLength_cabcc, 4, (some .int), 1),
  (yJ8_hugeLength_7cf53, cJ8_hugeLength_7cf53, 3, (some .int), 1),
  (yJ3_checkIndex_8e157, cJ3_checkIndex_8e157, 3, (some .int), 1)]
def ab_mt (y : Nat) : ab_M := ab_ms.getD y (yX8_in, cX8_in, 3, some .boolean, 2)
/-- the cells that a method may make, and their places -/
def ab_mc (y : Nat) : Nat := if 17 ≤ y then 0 else if y = 0 then 2 else if y = 1 then 13 else if y = 2 then 1 else if y = 3 then 1 else if y = 4 then 25 else if y = 5 then 2 else if y = 6 then 3 else if y = 7 then 2 else if y = 8 then 2 else if y = 9 then 1 else if y = 10 then 123 else if y = 11 then 1 else if y = 12 then 1 else if y = 13 then 1 else if y = 14 then 1 else if y = 15 then 1 else if y = 16 then 1 else 0
def ab_mS (y : Nat) : Nat := if 17 ≤ y then 0 else if y = 0 then 8 else if y = 1 then 60 else if y = 2 then 20 else if y = 3 then 3 else if y = 4 then 114 else if y = 5 then 252 else if y = 6 then 280 else if y = 7 then 251 else if y = 8 then 251 else if y = 9 then 3 else if y = 10 then 4077 else if y = 11 then 244 else if y = 12 then 244 else if y = 13 then 244 else if y = 14 then 244 else if y = 15 then 244 else if y = 16 then 244 else 0
abbrev nX0_init : Nat := 0
abbrev nX3_init : Nat := 1
abbrev nX6_init : Nat := 2
abbrev nX6_noteLook : Nat := 3
abbrev nX7_init : Nat := 4
abbrev nX7_home : Nat := 5
abbrev nX7_work : Nat := 6
abbrev nX7_rule : Nat := 7
abbrev nX7_wish : Nat := 8
abbrev nX7_look : Nat := 9
abbrev nX8_init : Nat := 10
abbrev nJx4a65c_grow_92f84 : Nat := 11
abbrev nJx4a65c_grow_d5877 : Nat := 12
abbrev nJx4a65c_add_72be8 : Nat := 13
abbrev nJx4a65c_add_9ea2d : Nat := 14
abbrev nJ7_copyOf_1904c : Nat := 15
abbrev nJ7_copyOf_6403c : Nat := 16
abbrev nX0_start : Nat := 17
abbrev nX0_add : Nat := 18
abbrev nX0_lastOfFarthest : Nat := 19
abbrev nX0_drop : Nat := 20
abbrev nX1_init : Nat := 21
abbrev nX1_hasRoomFor : Nat := 22
abbrev nX2_init : Nat := 23
abbrev nX2_shows : Nat := 24
abbrev nX3_clear : Nat := 25
abbrev nX3_canBeAsked : Nat := 26
abbrev nX3_add : Nat := 27
abbrev nX3_placeFor : Nat := 28
abbrev nX3_startAt : Nat := 29
abbrev nX3_make : Nat := 30
abbrev nX3_choose : Nat := 31
abbrev nX3_keepIfBetter : Nat := 32
abbrev nX3_wishFor : Nat := 33
abbrev nX4_init : Nat := 34
abbrev nX4_canBe : Nat := 35
abbrev nX5_init : Nat := 36
abbrev nX5_canBeServed : Nat := 37
abbrev nX5_rankBy : Nat := 38
abbrev nX5_refuse : Nat := 39
abbrev nX6_isLent : Nat := 40
abbrev nX6_isGivenUp : Nat := 41
abbrev nX6_canBeWishedBy : Nat := 42
abbrev nX6_lendTo : Nat := 43
abbrev nX6_leaveHome : Nat := 44
abbrev nX6_comeBack : Nat := 45
abbrev nX6_daysInStores : Nat := 46
abbrev nX6_daysLate : Nat := 47
abbrev nX6_rentBy : Nat := 48
abbrev nX6_priceFor : Nat := 49
abbrev nX7_far : Nat := 50
abbrev nX7_go : Nat := 51
abbrev nX7_unwish : Nat := 52
abbrev nX7_rank : Nat := 53
abbrev nX7_next : Nat := 54
abbrev nX7_offer : Nat := 55
abbrev nX7_back : Nat := 56
abbrev nX7_sell : Nat := 57
abbrev nX7_lose : Nat := 58
abbrev nX7_pay : Nat := 59
abbrev nX7_blame : Nat := 60
abbrev nX7_planned : Nat := 61
abbrev nX7_miles : Nat := 62
abbrev nX7_told : Nat := 63
abbrev nX7_homed : Nat := 64
abbrev nX7_wished : Nat := 65
abbrev nX7_artist : Nat := 66
abbrev nX7_count : Nat := 67
abbrev nX7_within : Nat := 68
abbrev nX7_isTown : Nat := 69
abbrev nX7_isArtist : Nat := 70
abbrev nX7_homeOf : Nat := 71
abbrev nX7_workOf : Nat := 72
abbrev nX7_lentWork : Nat := 73
abbrev nX7_wishOf : Nat := 74
abbrev nX7_openWish : Nat := 75
abbrev nX7_ruleOn : Nat := 76
abbrev nX7_hasOpenWish : Nat := 77
abbrev nX7_openWishes : Nat := 78
abbrev nX7_nextFor : Nat := 79
abbrev nX7_milesFor : Nat := 80
abbrev nX7_chargeRent : Nat := 81
abbrev nX7_giveUp : Nat := 82
abbrev nX7_makePlan : Nat := 83
abbrev nX8_in : Nat := 84
abbrev nX8_isHome : Nat := 85
abbrev nX8_isWork : Nat := 86
abbrev nX8_far : Nat := 87
abbrev nX8_home : Nat := 88
abbrev nX8_work : Nat := 89
abbrev nX8_rule : Nat := 90
abbrev nX8_ruled : Nat := 91
abbrev nX8_go : Nat := 92
abbrev nX8_openOf : Nat := 93
abbrev nX8_wish : Nat := 94
abbrev nX8_isOpen : Nat := 95
abbrev nX8_unwish : Nat := 96
abbrev nX8_rankOf : Nat := 97
abbrev nX8_rank : Nat := 98
abbrev nX8_points : Nat := 99
abbrev nX8_lent : Nat := 100
abbrev nX8_hasRoom : Nat := 101
abbrev nX8_next : Nat := 102
abbrev nX8_offer : Nat := 103
abbrev nX8_rented : Nat := 104
abbrev nX8_isLent : Nat := 105
abbrev nX8_back : Nat := 106
abbrev nX8_ends : Nat := 107
abbrev nX8_sell : Nat := 108
abbrev nX8_lose : Nat := 109
abbrev nX8_pay : Nat := 110
abbrev nX8_look : Nat := 111
abbrev nX8_blame : Nat := 112
abbrev nX8_couldHave : Nat := 113
abbrev nX8_tries : Nat := 114
abbrev nX8_plans : Nat := 115
abbrev nX8_planned : Nat := 116
abbrev nX8_miles : Nat := 117
abbrev nX8_told : Nat := 118
abbrev nX8_homed : Nat := 119
abbrev nX8_wished : Nat := 120
abbrev nX8_artist : Nat := 121
abbrev nX8_count : Nat := 122
abbrev nJ9_max_7cf53 : Nat := 123
abbrev nJ9_min_7cf53 : Nat := 124
abbrev nJxa1e45_init_da8c8 : Nat := 125
abbrev nJxc12de_init_da8c8 : Nat := 126
abbrev nJx4a65c_init_da8c8 : Nat := 127
abbrev nJx4a65c_size_8abf5 : Nat := 128
abbrev nJx4a65c_elementData_915e3 : Nat := 129
abbrev nJx4a65c_get_915e3 : Nat := 130
abbrev nJ15_checkIndex_7cf53 : Nat := 131
abbrev nJ8_newLength_cabcc : Nat := 132
abbrev nJ8_hugeLength_7cf53 : Nat := 133
abbrev nJ3_checkIndex_8e157 : Nat := 134
def ab_wp (i : Nat) (w : Cond) : Bool := decide (lw_tbl[i]? = some w) && goodWord w
theorem ab_wp_in {i : Nat} {w : Cond} (h : ab_wp i w = true) : w ∈ ab_ALL := by
  unfold ab_wp at h
  rw [Bool.and_eq_true, decide_eq_true_eq] at h
  exact ab_all_in (List.mem_of_getElem? h.1) h.2
theorem ab_uin_of {C : String} {T : u_T} {n : Nat} (ps : List Nat) (h : ((List.range n).all fun k => ab_wp (ps.getD k 0) (u_lay C T k)) = true) : ∀ w ∈ u_ws C T n, w ∈ ab_ALL := by
  intro w hw
  obtain ⟨k, hk, rfl⟩ := List.mem_map.mp hw
  exact ab_wp_in (List.all_eq_true.mp h k hk)
theorem ab_uin0 : ∀ w ∈ u_ws RJx4a65c TJx4a65c 3, w ∈ ab_ALL := ab_uin_of [89, 85, 87] (by decide +kernel)
theorem ab_uin1 : ∀ w ∈ u_ws RX0 TX0 6, w ∈ ab_ALL := ab_uin_of [158, 160, 162, 164, 166, 168] (by decide +kernel)
theorem ab_uin2 : ∀ w ∈ u_ws RX1 TX1 8, w ∈ ab_ALL := ab_uin_of [273, 275, 277, 279, 281, 283, 285, 287] (by decide +kernel)
theorem ab_uin3 : ∀ w ∈ u_ws RX2 TX2 3, w ∈ ab_ALL := ab_uin_of [643, 645, 647] (by decide +kernel)
theorem ab_uin4 : ∀ w ∈ u_ws RX3 TX3 5, w ∈ ab_ALL := ab_uin_of [177, 179, 181, 183, 185] (by decide +kernel)
theorem ab_uin5 : ∀ w ∈ u_ws RX4 TX4 7, w ∈ ab_ALL := ab_uin_of [116, 118, 120, 122, 124, 126, 128] (by decide +kernel)
theorem ab_uin6 : ∀ w ∈ u_ws RX5 TX5 7, w ∈ ab_ALL := ab_uin_of [494, 496, 498, 500, 502, 504, 506] (by decide +kernel)
theorem ab_uin7 : ∀ w ∈ u_ws RX6 TX6 16, w ∈ ab_ALL := ab_uin_of [390, 392, 394, 396, 398, 400, 402, 404, 406, 408, 410, 412, 414, 416, 418, 420] (by decide +kernel)
theorem ab_uin8 : ∀ w ∈ u_ws RX7 TX7 13, w ∈ ab_ALL := ab_uin_of [201, 203, 205, 207, 209, 211, 213, 215, 217, 219, 221, 223, 225] (by decide +kernel)
theorem ab_uin9 : ∀ w ∈ u_ws RX8 TX8 47, w ∈ ab_ALL := ab_uin_of [806, 808, 810, 812, 814, 816, 818, 820, 822, 824, 826, 828, 830, 832, 834, 836, 838, 840, 842, 844, 846, 848, 850, 852, 854, 856, 858, 860, 862, 864, 866, 868, 870, 872, 874, 876, 878, 880, 882, 884, 886, 888, 890, 892, 894, 896, 898] (by decide +kernel)
theorem ab_uin {K : Nat} (h : K < 10) : ∀ w ∈ u_ws (ab_N K) (ab_T K) (ab_nf K), w ∈ ab_ALL := ab_lt10 (P := fun K => ∀ w ∈ u_ws (ab_N K) (ab_T K) (ab_nf K), w ∈ ab_ALL) ab_uin0 ab_uin1 ab_uin2 ab_uin3 ab_uin4 ab_uin5 ab_uin6 ab_uin7 ab_uin8 ab_uin9 h
theorem ab_w_sf : Cond.sameField "java/util/ArrayList" "java/util/AbstractList" "modCount" "I" ∈ ab_ALL := ab_wp_in (i := 84) (by decide +kernel)
theorem ab_w_oi : Cond.instanceMethod objectInit ∈ ab_ALL := ab_wp_in (i := 62) (by decide +kernel)
theorem ab_w_oc : Cond.code objectInit ⟨#[0xb1]⟩ 1 none ∈ ab_ALL := ab_wp_in (i := 63) (by decide +kernel)
theorem ab_w_ac : Cond.arrayClass .int ∈ ab_ALL := ab_wp_in (i := 92) (by decide +kernel)

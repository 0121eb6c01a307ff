set_option maxRecDepth 20000 in
theorem ggX0_repeat_X0_has : GoodIn wsX0_repeat wsX0_has := goodIn_r _ [10, 11, 17, 18, 19, 20, 21, 22, 23] (by decide +kernel) (by decide +kernel)
set_option maxRecDepth 20000 in
theorem gX0_repeat_X0_has : GoodIn wsX0_repeat (wsV RX0 35 RX0 yX0_has wsX0_has) := goodIn_app (goodIn_of _ (by decide +kernel)) ggX0_repeat_X0_has
set_option maxRecDepth 20000 in
theorem ggX0_repeat_X0_send : GoodIn wsX0_repeat wsX0_send := goodIn_r _ [15, 11, 16, 1, 2, 3, 4, 5, 17, 18, 19, 20, 21, 22, 23] (by decide +kernel) (by decide +kernel)
set_option maxRecDepth 20000 in
theorem gX0_repeat_X0_send : GoodIn wsX0_repeat (wsV RX0 39 RX0 yX0_send wsX0_send) := goodIn_app (goodIn_of _ (by decide +kernel)) ggX0_repeat_X0_send
set_option maxRecDepth 20000 in
theorem ggX0_drop_X0_has : GoodIn wsX0_drop wsX0_has := goodIn_r _ [15, 1, 16, 17, 18, 19, 20, 21, 22] (by decide +kernel) (by decide +kernel)
set_option maxRecDepth 20000 in
theorem gX0_drop_X0_has : GoodIn wsX0_drop (wsV RX0 35 RX0 yX0_has wsX0_has) := goodIn_app (goodIn_of _ (by decide +kernel)) ggX0_drop_X0_has
set_option maxRecDepth 20000 in
theorem ggX1_knows_X3_isPlace : GoodIn wsX1_knows wsX3_isPlace := goodIn_r _ [5] (by decide +kernel) (by decide +kernel)
set_option maxRecDepth 20000 in
theorem gX1_knows_X3_isPlace_n53 : GoodIn wsX1_knows (wsX3_isPlace) := ggX1_knows_X3_isPlace
set_option maxRecDepth 20000 in
theorem ggX1_knows_J6_bitCount_0f7a4 : GoodIn wsX1_knows wsJ6_bitCount_0f7a4 := goodIn_r _ [9, 10, 11, 12] (by decide +kernel) (by decide +kernel)
set_option maxRecDepth 20000 in
theorem gX1_knows_J6_bitCount_0f7a4 : GoodIn wsX1_knows (va_wsS RX1 57 yJ6_bitCount_0f7a4 wsJ6_bitCount_0f7a4) := goodIn_app (goodIn_of _ (by decide +kernel)) ggX1_knows_J6_bitCount_0f7a4
set_option maxRecDepth 20000 in
theorem ggX1_hasChosen_X3_isPlace : GoodIn wsX1_hasChosen wsX3_isPlace := goodIn_r _ [5] (by decide +kernel) (by decide +kernel)
set_option maxRecDepth 20000 in
theorem gX1_hasChosen_X3_isPlace_n53 : GoodIn wsX1_hasChosen (wsX3_isPlace) := ggX1_hasChosen_X3_isPlace
set_option maxRecDepth 20000 in
theorem ggX1_hasChosen_J6_bitCount_0f7a4 : GoodIn wsX1_hasChosen wsJ6_bitCount_0f7a4 := goodIn_r _ [9, 10, 11, 12] (by decide +kernel) (by decide +kernel)
set_option maxRecDepth 20000 in
theorem gX1_hasChosen_J6_bitCount_0f7a4 : GoodIn wsX1_hasChosen (va_wsS RX1 57 yJ6_bitCount_0f7a4 wsJ6_bitCount_0f7a4) := goodIn_app (goodIn_of _ (by decide +kernel)) ggX1_hasChosen_J6_bitCount_0f7a4
set_option maxRecDepth 20000 in
theorem ggX1_knownPlaces_X1_knows : GoodIn wsX1_knownPlaces wsX1_knows := goodIn_r _ [5, 6, 7, 8, 9, 10, 11, 12, 13, 14, 15, 16, 17, 18, 19, 20, 21, 22, 23, 24, 25, 26, 27, 28, 29, 30, 31] (by decide +kernel) (by decide +kernel)
set_option maxRecDepth 20000 in
theorem gX1_knownPlaces_X1_knows : GoodIn wsX1_knownPlaces (wsV RX1 63 RX1 yX1_knows wsX1_knows) := goodIn_app (goodIn_of _ (by decide +kernel)) ggX1_knownPlaces_X1_knows
set_option maxRecDepth 20000 in
theorem ggX2_places_X2_at : GoodIn wsX2_places wsX2_at := goodIn_r _ [4, 5] (by decide +kernel) (by decide +kernel)
set_option maxRecDepth 20000 in
theorem gX2_places_X2_at : GoodIn wsX2_places (va_wsS RX2 15 yX2_at wsX2_at) := goodIn_app (goodIn_of _ (by decide +kernel)) ggX2_places_X2_at
set_option maxRecDepth 20000 in
theorem ggX3_init_X0_init : GoodIn wsX3_init wsX0_init := goodIn_r _ [23, 24, 2, 3, 12, 25, 26, 27, 28, 14, 29, 38, 39, 40, 41, 42, 43, 44] (by decide +kernel) (by decide +kernel)
set_option maxRecDepth 20000 in
theorem gX3_init_X0_init_n38 : GoodIn wsX3_init (wsX0_init) := ggX3_init_X0_init
set_option maxRecDepth 20000 in
theorem ggX3_ballot_X3_canBe : GoodIn wsX3_ballot wsX3_canBe := goodIn_r _ [16, 17, 18, 19, 20, 21, 22, 23, 24, 65, 66, 67, 68, 69, 70, 71, 72] (by decide +kernel) (by decide +kernel)
set_option maxRecDepth 20000 in
theorem gX3_ballot_X3_canBe : GoodIn wsX3_ballot (wsV RX3 46 RX3 yX3_canBe wsX3_canBe) := goodIn_app (goodIn_of _ (by decide +kernel)) ggX3_ballot_X3_canBe
set_option maxRecDepth 20000 in
theorem ggX3_ballot_X3_membersFrom : GoodIn wsX3_ballot wsX3_membersFrom := goodIn_r _ [28, 1, 29, 30, 31, 32, 15, 33, 10, 65, 66, 67, 68, 69, 70, 71, 72, 73, 74, 75, 76, 77, 78, 79, 80, 81, 82, 83, 84, 85, 86] (by decide +kernel) (by decide +kernel)
set_option maxRecDepth 20000 in
theorem gX3_ballot_X3_membersFrom : GoodIn wsX3_ballot (wsV RX3 53 RX3 yX3_membersFrom wsX3_membersFrom) := goodIn_app (goodIn_of _ (by decide +kernel)) ggX3_ballot_X3_membersFrom
set_option maxRecDepth 20000 in
theorem ggX3_ballot_X1_init : GoodIn wsX3_ballot wsX1_init := goodIn_r _ [36, 37, 38, 39, 40, 41, 42, 43, 44, 45, 46, 47, 48, 49, 50, 51, 52, 73, 74, 75, 76, 77, 78, 79, 80, 81, 82, 83, 84, 85, 86] (by decide +kernel) (by decide +kernel)
set_option maxRecDepth 20000 in
theorem gX3_ballot_X1_init : GoodIn wsX3_ballot (wsX1_init) := ggX3_ballot_X1_init
set_option maxRecDepth 20000 in
theorem ggX3_ballot_X0_send : GoodIn wsX3_ballot wsX0_send := goodIn_r _ [57, 58, 59, 60, 61, 62, 63, 64, 87, 88, 89, 90, 91, 92, 93] (by decide +kernel) (by decide +kernel)
set_option maxRecDepth 20000 in
theorem gX3_ballot_X0_send : GoodIn wsX3_ballot (wsV RX3 60 RX0 yX0_send wsX0_send) := goodIn_app (goodIn_of _ (by decide +kernel)) ggX3_ballot_X0_send
set_option maxRecDepth 20000 in
theorem ggX3_propose_X3_find : GoodIn wsX3_propose wsX3_find := goodIn_r _ [9, 10, 11, 62, 63, 64, 65, 66, 67, 68, 69] (by decide +kernel) (by decide +kernel)
set_option maxRecDepth 20000 in
theorem gX3_propose_X3_find : GoodIn wsX3_propose (wsV RX3 64 RX3 yX3_find wsX3_find) := goodIn_app (goodIn_of _ (by decide +kernel)) ggX3_propose_X3_find
set_option maxRecDepth 20000 in
theorem ggX3_propose_X3_isPlace : GoodIn wsX3_propose wsX3_isPlace := goodIn_r _ [14] (by decide +kernel) (by decide +kernel)
set_option maxRecDepth 20000 in
theorem gX3_propose_X3_isPlace : GoodIn wsX3_propose (va_wsS RX3 68 yX3_isPlace wsX3_isPlace) := goodIn_app (goodIn_of _ (by decide +kernel)) ggX3_propose_X3_isPlace
set_option maxRecDepth 20000 in
theorem ggX3_propose_X1_hasWord : GoodIn wsX3_propose wsX1_hasWord := goodIn_r _ [19, 20, 21, 48, 49, 50, 51, 52, 53, 54, 55, 56, 57, 58, 59, 60, 61] (by decide +kernel) (by decide +kernel)
set_option maxRecDepth 20000 in
theorem gX3_propose_X1_hasWord : GoodIn wsX3_propose (wsV RX3 75 RX1 yX1_hasWord wsX1_hasWord) := goodIn_app (goodIn_of _ (by decide +kernel)) ggX3_propose_X1_hasWord
set_option maxRecDepth 20000 in
theorem ggX3_propose_X3_sendToEach : GoodIn wsX3_propose wsX3_sendToEach := goodIn_r _ [25, 26, 27, 28, 29, 30, 31, 32, 33, 34, 35, 36, 37, 38, 39, 40, 41, 42, 43, 44, 45, 46, 47, 62, 63, 64, 65, 66, 67, 68, 69, 48, 49, 50, 51, 52, 53, 54, 55, 56, 57, 58, 59, 60, 61, 70, 71, 72, 73, 74, 75, 76] (by decide +kernel) (by decide +kernel)
set_option maxRecDepth 20000 in
theorem gX3_propose_X3_sendToEach : GoodIn wsX3_propose (wsV RX3 87 RX3 yX3_sendToEach wsX3_sendToEach) := goodIn_app (goodIn_of _ (by decide +kernel)) ggX3_propose_X3_sendToEach
set_option maxRecDepth 20000 in
theorem ggX3_again_X3_find : GoodIn wsX3_again wsX3_find := goodIn_r _ [10, 11, 12, 73, 74, 75, 76, 77, 78, 79, 80] (by decide +kernel) (by decide +kernel)
set_option maxRecDepth 20000 in
theorem gX3_again_X3_find : GoodIn wsX3_again (wsV RX3 64 RX3 yX3_find wsX3_find) := goodIn_app (goodIn_of _ (by decide +kernel)) ggX3_again_X3_find
set_option maxRecDepth 20000 in
theorem ggX3_again_X0_send : GoodIn wsX3_again wsX0_send := goodIn_r _ [17, 18, 19, 20, 21, 22, 23, 24, 81, 82, 83, 84, 85, 86, 87] (by decide +kernel) (by decide +kernel)
set_option maxRecDepth 20000 in
theorem gX3_again_X0_send : GoodIn wsX3_again (wsV RX3 60 RX0 yX0_send wsX0_send) := goodIn_app (goodIn_of _ (by decide +kernel)) ggX3_again_X0_send
set_option maxRecDepth 20000 in
theorem ggX3_again_X3_sendToEach : GoodIn wsX3_again wsX3_sendToEach := goodIn_r _ [28, 29, 2, 3, 13, 14, 15, 16, 17, 18, 19, 20, 21, 22, 23, 24, 30, 31, 32, 33, 34, 35, 36, 73, 74, 75, 76, 77, 78, 79, 80, 59, 60, 61, 62, 63, 64, 65, 66, 67, 68, 69, 70, 71, 72, 81, 82, 83, 84, 85, 86, 87] (by decide +kernel) (by decide +kernel)
set_option maxRecDepth 20000 in
theorem gX3_again_X3_sendToEach : GoodIn wsX3_again (wsV RX3 87 RX3 yX3_sendToEach wsX3_sendToEach) := goodIn_app (goodIn_of _ (by decide +kernel)) ggX3_again_X3_sendToEach
set_option maxRecDepth 20000 in
theorem ggX3_again_X3_sendMissingVotes : GoodIn wsX3_again wsX3_sendMissingVotes := goodIn_r _ [40, 41, 42, 43, 44, 45, 46, 47, 48, 49, 50, 51, 52, 53, 54, 55, 56, 9, 57, 58, 31, 32, 33, 34, 35, 36, 25, 26, 27, 28, 29, 2, 3, 13, 14, 15, 16, 17, 18, 19, 20, 21, 22, 23, 24, 30, 59, 60, 61, 62, 63, 64, 65, 66, 67, 68, 69, 70, 71, 72, 73, 74, 75, 76, 77, 78, 79, 80, 81, 82, 83, 84, 85, 86, 87] (by decide +kernel) (by decide +kernel)
set_option maxRecDepth 20000 in
theorem gX3_again_X3_sendMissingVotes : GoodIn wsX3_again (wsV RX3 100 RX3 yX3_sendMissingVotes wsX3_sendMissingVotes) := goodIn_app (goodIn_of _ (by decide +kernel)) ggX3_again_X3_sendMissingVotes
set_option maxRecDepth 20000 in
theorem ggX3_deliver_X0_has : GoodIn wsX3_deliver wsX0_has := goodIn_r _ [6, 7, 166, 167, 168, 169, 170, 171, 172] (by decide +kernel) (by decide +kernel)
set_option maxRecDepth 20000 in
theorem gX3_deliver_X0_has : GoodIn wsX3_deliver (wsV RX3 104 RX0 yX0_has wsX0_has) := goodIn_app (goodIn_of _ (by decide +kernel)) ggX3_deliver_X0_has
set_option maxRecDepth 20000 in
theorem ggX3_deliver_X3_isForSilent : GoodIn wsX3_deliver wsX3_isForSilent := goodIn_r _ [12, 1, 13, 14, 15, 158, 159, 160, 161, 162, 163, 164, 165, 166, 167, 168, 169, 170, 171, 172] (by decide +kernel) (by decide +kernel)
set_option maxRecDepth 20000 in
theorem gX3_deliver_X3_isForSilent : GoodIn wsX3_deliver (wsV RX3 107 RX3 yX3_isForSilent wsX3_isForSilent) := goodIn_app (goodIn_of _ (by decide +kernel)) ggX3_deliver_X3_isForSilent
set_option maxRecDepth 20000 in
theorem ggX3_deliver_X3_handOver : GoodIn wsX3_deliver wsX3_handOver := goodIn_r _ [19, 1, 13, 15, 20, 21, 22, 23, 24, 25, 11, 26, 27, 28, 29, 30, 31, 5, 32, 7, 33, 34, 35, 36, 37, 38, 39, 40, 41, 42, 3, 4, 6, 43, 44, 45, 46, 47, 48, 49, 50, 51, 52, 53, 54, 55, 56, 57, 58, 59, 60, 61, 62, 63, 64, 65, 66, 67, 68, 69, 70, 71, 72, 73, 74, 75, 76, 77, 78, 79, 80, 81, 82, 83, 84, 85, 86, 87, 88, 89, 90, 91, 92, 93, 94, 95, 96, 97, 98, 99, 100, 101, 102, 103, 104, 105, 106, 107, 108, 109, 110, 111, 112, 113, 114, 115, 116, 117, 118, 119, 120, 121, 122, 123, 124, 125, 126, 127, 128, 129, 130, 131, 132, 133, 134, 135, 136, 137, 138, 139, 140, 141, 142, 143, 144, 145, 146, 147, 148, 149, 150, 151, 152, 153, 154, 155, 156, 157, 158, 159, 160, 161, 162, 163, 164, 165, 166, 167, 168, 169, 170, 171, 172, 173, 174, 175, 176, 177, 178, 179, 180, 181, 182, 183, 184, 185, 186] (by decide +kernel) (by decide +kernel)
set_option maxRecDepth 20000 in
theorem gX3_deliver_X3_handOver : GoodIn wsX3_deliver (wsV RX3 110 RX3 yX3_handOver wsX3_handOver) := goodIn_app (goodIn_of _ (by decide +kernel)) ggX3_deliver_X3_handOver
set_option maxRecDepth 20000 in
theorem ggX3_settle_X3_firstDeliverable : GoodIn wsX3_settle wsX3_firstDeliverable := goodIn_r _ [5, 6, 7, 8, 9, 10, 4, 11, 12, 13, 14, 162, 163, 164, 165, 166, 167, 168, 169, 170, 171, 172, 173, 174, 175, 176] (by decide +kernel) (by decide +kernel)
set_option maxRecDepth 20000 in
theorem gX3_settle_X3_firstDeliverable : GoodIn wsX3_settle (wsV RX3 114 RX3 yX3_firstDeliverable wsX3_firstDeliverable) := goodIn_app (goodIn_of _ (by decide +kernel)) ggX3_settle_X3_firstDeliverable
set_option maxRecDepth 20000 in
theorem ggX3_settle_X3_handOver : GoodIn wsX3_settle wsX3_handOver := goodIn_r _ [18, 6, 12, 14, 19, 20, 21, 22, 23, 24, 4, 25, 26, 27, 28, 29, 30, 31, 32, 33, 34, 35, 36, 37, 38, 39, 40, 41, 42, 43, 44, 45, 46, 47, 48, 49, 50, 51, 52, 53, 54, 55, 56, 57, 58, 59, 60, 61, 62, 63, 64, 65, 66, 67, 68, 69, 70, 71, 72, 73, 74, 75, 76, 77, 78, 79, 80, 81, 82, 83, 84, 85, 86, 87, 88, 89, 90, 91, 92, 93, 94, 95, 96, 97, 98, 99, 100, 101, 102, 103, 104, 105, 106, 107, 108, 109, 110, 111, 112, 113, 114, 115, 116, 117, 118, 119, 120, 121, 122, 123, 124, 125, 126, 127, 128, 129, 130, 131, 132, 133, 134, 135, 136, 137, 138, 139, 140, 141, 142, 143, 144, 145, 146, 147, 148, 149, 150, 151, 152, 153, 154, 155, 156, 157, 158, 159, 160, 161, 162, 163, 164, 165, 166, 167, 168, 169, 170, 171, 172, 173, 174, 175, 176, 177, 178, 179, 180, 181, 182, 183, 184, 185, 186, 187, 188, 189, 190] (by decide +kernel) (by decide +kernel)
set_option maxRecDepth 20000 in
theorem gX3_settle_X3_handOver : GoodIn wsX3_settle (wsV RX3 110 RX3 yX3_handOver wsX3_handOver) := goodIn_app (goodIn_of _ (by decide +kernel)) ggX3_settle_X3_handOver
set_option maxRecDepth 20000 in
theorem ggX3_lose_X0_has : GoodIn wsX3_lose wsX0_has := goodIn_r _ [6, 7, 30, 31, 32, 33, 34, 35, 36] (by decide +kernel) (by decide +kernel)
set_option maxRecDepth 20000 in
theorem gX3_lose_X0_has : GoodIn wsX3_lose (wsV RX3 104 RX0 yX0_has wsX0_has) := goodIn_app (goodIn_of _ (by decide +kernel)) ggX3_lose_X0_has
set_option maxRecDepth 20000 in
theorem ggX3_lose_X0_drop : GoodIn wsX3_lose wsX0_drop := goodIn_r _ [11, 7, 12, 13, 14, 15, 16, 17, 18, 19, 20, 21, 3, 4, 5, 6, 30, 31, 32, 33, 34, 35, 36] (by decide +kernel) (by decide +kernel)
set_option maxRecDepth 20000 in
theorem gX3_lose_X0_drop : GoodIn wsX3_lose (wsV RX3 118 RX0 yX0_drop wsX0_drop) := goodIn_app (goodIn_of _ (by decide +kernel)) ggX3_lose_X0_drop
set_option maxRecDepth 20000 in
theorem ggX3_twice_X0_has : GoodIn wsX3_twice wsX0_has := goodIn_r _ [7, 8, 32, 33, 34, 35, 36, 37, 38] (by decide +kernel) (by decide +kernel)
set_option maxRecDepth 20000 in
theorem gX3_twice_X0_has : GoodIn wsX3_twice (wsV RX3 104 RX0 yX0_has wsX0_has) := goodIn_app (goodIn_of _ (by decide +kernel)) ggX3_twice_X0_has
set_option maxRecDepth 20000 in
theorem ggX3_twice_X0_repeat : GoodIn wsX3_twice wsX0_repeat := goodIn_r _ [12, 13, 14, 15, 16, 17, 18, 4, 5, 6, 7, 8, 19, 20, 21, 22, 23, 32, 33, 34, 35, 36, 37, 38] (by decide +kernel) (by decide +kernel)
set_option maxRecDepth 20000 in
theorem gX3_twice_X0_repeat : GoodIn wsX3_twice (wsV RX3 124 RX0 yX0_repeat wsX0_repeat) := goodIn_app (goodIn_of _ (by decide +kernel)) ggX3_twice_X0_repeat
set_option maxRecDepth 20000 in
theorem ggX3_silent_X3_isVoter : GoodIn wsX3_silent wsX3_isVoter := goodIn_r _ [6, 7, 8, 9, 10, 11, 12, 13, 14, 15] (by decide +kernel) (by decide +kernel)
set_option maxRecDepth 20000 in
theorem gX3_silent_X3_isVoter : GoodIn wsX3_silent (wsV RX3 127 RX3 yX3_isVoter wsX3_isVoter) := goodIn_app (goodIn_of _ (by decide +kernel)) ggX3_silent_X3_isVoter
set_option maxRecDepth 20000 in
theorem ggX3_promise_X3_isVoter : GoodIn wsX3_promise wsX3_isVoter := goodIn_r _ [6, 7, 8, 9, 10, 11, 12, 13, 14, 15] (by decide +kernel) (by decide +kernel)
set_option maxRecDepth 20000 in
theorem gX3_promise_X3_isVoter : GoodIn wsX3_promise (wsV RX3 127 RX3 yX3_isVoter wsX3_isVoter) := goodIn_app (goodIn_of _ (by decide +kernel)) ggX3_promise_X3_isVoter
set_option maxRecDepth 20000 in
theorem ggX3_vote_X3_isVoter : GoodIn wsX3_vote wsX3_isVoter := goodIn_r _ [6, 7, 16, 17, 18, 19, 20, 21, 22, 23] (by decide +kernel) (by decide +kernel)
set_option maxRecDepth 20000 in
theorem gX3_vote_X3_isVoter : GoodIn wsX3_vote (wsV RX3 127 RX3 yX3_isVoter wsX3_isVoter) := goodIn_app (goodIn_of _ (by decide +kernel)) ggX3_vote_X3_isVoter
set_option maxRecDepth 20000 in
theorem ggX3_vote_X3_isPlace : GoodIn wsX3_vote wsX3_isPlace := goodIn_r _ [10] (by decide +kernel) (by decide +kernel)
set_option maxRecDepth 20000 in
theorem gX3_vote_X3_isPlace : GoodIn wsX3_vote (va_wsS RX3 68 yX3_isPlace wsX3_isPlace) := goodIn_app (goodIn_of _ (by decide +kernel)) ggX3_vote_X3_isPlace
set_option maxRecDepth 20000 in
theorem ggX3_vote_X2_at : GoodIn wsX3_vote wsX2_at := goodIn_r _ [14, 15] (by decide +kernel) (by decide +kernel)
set_option maxRecDepth 20000 in
theorem gX3_vote_X2_at : GoodIn wsX3_vote (va_wsS RX3 133 yX2_at wsX2_at) := goodIn_app (goodIn_of _ (by decide +kernel)) ggX3_vote_X2_at
set_option maxRecDepth 20000 in
theorem ggX3_value_X3_isVoter : GoodIn wsX3_value wsX3_isVoter := goodIn_r _ [7, 8, 23, 24, 25, 26, 27, 28, 29, 30] (by decide +kernel) (by decide +kernel)
set_option maxRecDepth 20000 in
theorem gX3_value_X3_isVoter : GoodIn wsX3_value (wsV RX3 127 RX3 yX3_isVoter wsX3_isVoter) := goodIn_app (goodIn_of _ (by decide +kernel)) ggX3_value_X3_isVoter
set_option maxRecDepth 20000 in
theorem ggX3_value_X3_isPlace : GoodIn wsX3_value wsX3_isPlace := goodIn_r _ [11] (by decide +kernel) (by decide +kernel)
set_option maxRecDepth 20000 in
theorem gX3_value_X3_isPlace : GoodIn wsX3_value (va_wsS RX3 68 yX3_isPlace wsX3_isPlace) := goodIn_app (goodIn_of _ (by decide +kernel)) ggX3_value_X3_isPlace
set_option maxRecDepth 20000 in
theorem ggX3_value_X2_at : GoodIn wsX3_value wsX2_at := goodIn_r _ [15, 16] (by decide +kernel) (by decide +kernel)
set_option maxRecDepth 20000 in
theorem gX3_value_X2_at : GoodIn wsX3_value (va_wsS RX3 133 yX2_at wsX2_at) := goodIn_app (goodIn_of _ (by decide +kernel)) ggX3_value_X2_at
set_option maxRecDepth 20000 in
theorem ggX3_value_X3_find : GoodIn wsX3_value wsX3_find := goodIn_r _ [20, 21, 22, 23, 24, 25, 26, 27, 28, 29, 30] (by decide +kernel) (by decide +kernel)
set_option maxRecDepth 20000 in
theorem gX3_value_X3_find : GoodIn wsX3_value (wsV RX3 64 RX3 yX3_find wsX3_find) := goodIn_app (goodIn_of _ (by decide +kernel)) ggX3_value_X3_find
set_option maxRecDepth 20000 in
theorem ggX3_of_X3_find : GoodIn wsX3_of wsX3_find := goodIn_r _ [13, 14, 15, 50, 51, 52, 53, 54, 55, 56, 57] (by decide +kernel) (by decide +kernel)
set_option maxRecDepth 20000 in
theorem gX3_of_X3_find : GoodIn wsX3_of (wsV RX3 64 RX3 yX3_find wsX3_find) := goodIn_app (goodIn_of _ (by decide +kernel)) ggX3_of_X3_find
set_option maxRecDepth 20000 in
theorem ggX3_of_X1_knownPlaces : GoodIn wsX3_of wsX1_knownPlaces := goodIn_r _ [20, 21, 22, 23, 19, 24, 25, 26, 27, 12, 28, 29, 30, 31, 32, 33, 34, 35, 36, 37, 38, 39, 40, 41, 42, 43, 44, 45, 46, 47, 48, 49] (by decide +kernel) (by decide +kernel)
set_option maxRecDepth 20000 in
theorem gX3_of_X1_knownPlaces : GoodIn wsX3_of (wsV RX3 151 RX1 yX1_knownPlaces wsX1_knownPlaces) := goodIn_app (goodIn_of _ (by decide +kernel)) ggX3_of_X1_knownPlaces
set_option maxRecDepth 20000 in
theorem ggX3_answered_X3_find : GoodIn wsX3_answered wsX3_find := goodIn_r _ [6, 7, 8, 26, 27, 28, 29, 30, 31, 32, 33] (by decide +kernel) (by decide +kernel)
set_option maxRecDepth 20000 in
theorem gX3_answered_X3_find : GoodIn wsX3_answered (wsV RX3 64 RX3 yX3_find wsX3_find) := goodIn_app (goodIn_of _ (by decide +kernel)) ggX3_answered_X3_find
set_option maxRecDepth 20000 in
theorem ggX3_answered_X3_isPlace : GoodIn wsX3_answered wsX3_isPlace := goodIn_r _ [11] (by decide +kernel) (by decide +kernel)
set_option maxRecDepth 20000 in
theorem gX3_answered_X3_isPlace : GoodIn wsX3_answered (va_wsS RX3 68 yX3_isPlace wsX3_isPlace) := goodIn_app (goodIn_of _ (by decide +kernel)) ggX3_answered_X3_isPlace
set_option maxRecDepth 20000 in
theorem ggX3_said_X3_find : GoodIn wsX3_said wsX3_find := goodIn_r _ [6, 7, 8, 26, 27, 28, 29, 30, 31, 32, 33] (by decide +kernel) (by decide +kernel)
set_option maxRecDepth 20000 in
theorem gX3_said_X3_find : GoodIn wsX3_said (wsV RX3 64 RX3 yX3_find wsX3_find) := goodIn_app (goodIn_of _ (by decide +kernel)) ggX3_said_X3_find
set_option maxRecDepth 20000 in
theorem ggX3_said_X3_isPlace : GoodIn wsX3_said wsX3_isPlace := goodIn_r _ [11] (by decide +kernel) (by decide +kernel)
set_option maxRecDepth 20000 in
theorem gX3_said_X3_isPlace : GoodIn wsX3_said (va_wsS RX3 68 yX3_isPlace wsX3_isPlace) := goodIn_app (goodIn_of _ (by decide +kernel)) ggX3_said_X3_isPlace
set_option maxRecDepth 20000 in
theorem ggX3_chosen_X3_firstThatChose : GoodIn wsX3_chosen wsX3_firstThatChose := goodIn_r _ [6, 7, 8, 9, 5, 10, 11, 12, 13, 14, 15, 16, 17, 18, 19, 20, 21, 22, 23, 24, 25, 26, 27, 28, 29, 44, 45, 46, 47, 48, 49, 50, 51, 30, 31, 32, 33, 34, 35, 36, 37, 38, 39, 40, 41, 42, 43] (by decide +kernel) (by decide +kernel)
set_option maxRecDepth 20000 in
theorem gX3_chosen_X3_firstThatChose : GoodIn wsX3_chosen (wsV RX3 157 RX3 yX3_firstThatChose wsX3_firstThatChose) := goodIn_app (goodIn_of _ (by decide +kernel)) ggX3_chosen_X3_firstThatChose
set_option maxRecDepth 20000 in
theorem ggX3_chosenValue_X3_firstThatChose : GoodIn wsX3_chosenValue wsX3_firstThatChose := goodIn_r _ [6, 7, 8, 9, 5, 10, 11, 12, 13, 14, 15, 16, 17, 18, 19, 20, 21, 22, 23, 24, 25, 26, 27, 28, 29, 44, 45, 46, 47, 48, 49, 50, 51, 30, 31, 32, 33, 34, 35, 36, 37, 38, 39, 40, 41, 42, 43] (by decide +kernel) (by decide +kernel)
set_option maxRecDepth 20000 in
theorem gX3_chosenValue_X3_firstThatChose : GoodIn wsX3_chosenValue (wsV RX3 157 RX3 yX3_firstThatChose wsX3_firstThatChose) := goodIn_app (goodIn_of _ (by decide +kernel)) ggX3_chosenValue_X3_firstThatChose
set_option maxRecDepth 20000 in
theorem ggX3_chosenValue_X3_isPlace : GoodIn wsX3_chosenValue wsX3_isPlace := goodIn_r _ [10] (by decide +kernel) (by decide +kernel)
set_option maxRecDepth 20000 in
theorem gX3_chosenValue_X3_isPlace : GoodIn wsX3_chosenValue (va_wsS RX3 68 yX3_isPlace wsX3_isPlace) := goodIn_app (goodIn_of _ (by decide +kernel)) ggX3_chosenValue_X3_isPlace
set_option maxRecDepth 20000 in
theorem ggX3_isOne_X3_firstThatChose : GoodIn wsX3_isOne wsX3_firstThatChose := goodIn_r _ [8, 2, 9, 10, 7, 11, 12, 13, 14, 15, 16, 17, 18, 19, 20, 21, 22, 23, 24, 25, 26, 27, 28, 29, 30, 45, 46, 47, 48, 49, 50, 51, 52, 31, 32, 33, 34, 35, 36, 37, 38, 39, 40, 41, 42, 43, 44] (by decide +kernel) (by decide +kernel)
set_option maxRecDepth 20000 in
theorem gX3_isOne_X3_firstThatChose : GoodIn wsX3_isOne (wsV RX3 157 RX3 yX3_firstThatChose wsX3_firstThatChose) := goodIn_app (goodIn_of _ (by decide +kernel)) ggX3_isOne_X3_firstThatChose
set_option maxRecDepth 20000 in
theorem ggX3_isOne_X3_isPlace : GoodIn wsX3_isOne wsX3_isPlace := goodIn_r _ [11] (by decide +kernel) (by decide +kernel)
set_option maxRecDepth 20000 in
theorem gX3_isOne_X3_isPlace : GoodIn wsX3_isOne (va_wsS RX3 68 yX3_isPlace wsX3_isPlace) := goodIn_app (goodIn_of _ (by decide +kernel)) ggX3_isOne_X3_isPlace
set_option maxRecDepth 20000 in
theorem ggX3_isOne_X3_find : GoodIn wsX3_isOne wsX3_find := goodIn_r _ [15, 2, 16, 45, 46, 47, 48, 49, 50, 51, 52] (by decide +kernel) (by decide +kernel)
set_option maxRecDepth 20000 in
theorem gX3_isOne_X3_find : GoodIn wsX3_isOne (wsV RX3 64 RX3 yX3_find wsX3_find) := goodIn_app (goodIn_of _ (by decide +kernel)) ggX3_isOne_X3_find
set_option maxRecDepth 20000 in
theorem ggX3_isOne_X1_hasChosen : GoodIn wsX3_isOne wsX1_hasChosen := goodIn_r _ [21, 22, 23, 10, 7, 11, 24, 25, 26, 27, 28, 29, 30, 31, 32, 33, 34, 35, 36, 37, 38, 39, 40, 41, 42, 43, 44] (by decide +kernel) (by decide +kernel)
set_option maxRecDepth 20000 in
theorem gX3_isOne_X1_hasChosen : GoodIn wsX3_isOne (wsV RX3 160 RX1 yX1_hasChosen wsX1_hasChosen) := goodIn_app (goodIn_of _ (by decide +kernel)) ggX3_isOne_X1_hasChosen
set_option maxRecDepth 20000 in
theorem ggX3_air_X0_has : GoodIn wsX3_air wsX0_has := goodIn_r _ [11, 12, 29, 30, 31, 32, 33, 34, 35] (by decide +kernel) (by decide +kernel)
set_option maxRecDepth 20000 in
theorem gX3_air_X0_has : GoodIn wsX3_air (wsV RX3 104 RX0 yX0_has wsX0_has) := goodIn_app (goodIn_of _ (by decide +kernel)) ggX3_air_X0_has
set_option maxRecDepth 20000 in
theorem ggX3_air_X2_places : GoodIn wsX3_air wsX2_places := goodIn_r _ [16, 17, 18, 15, 19, 20] (by decide +kernel) (by decide +kernel)
set_option maxRecDepth 20000 in
theorem gX3_air_X2_places : GoodIn wsX3_air (va_wsS RX3 176 yX2_places wsX2_places) := goodIn_app (goodIn_of _ (by decide +kernel)) ggX3_air_X2_places
set_option maxRecDepth 20000 in
theorem ggX3_canBe_J6_bitCount_0f7a4 : GoodIn wsX3_canBe wsJ6_bitCount_0f7a4 := goodIn_r _ [5, 6, 7, 8] (by decide +kernel) (by decide +kernel)
set_option maxRecDepth 20000 in
theorem gX3_canBe_J6_bitCount_0f7a4 : GoodIn wsX3_canBe (va_wsS RX3 183 yJ6_bitCount_0f7a4 wsJ6_bitCount_0f7a4) := goodIn_app (goodIn_of _ (by decide +kernel)) ggX3_canBe_J6_bitCount_0f7a4
set_option maxRecDepth 20000 in
theorem ggX3_membersFrom_X3_find : GoodIn wsX3_membersFrom wsX3_find := goodIn_r _ [7, 1, 8, 9, 10, 11, 12, 13, 14, 15, 16] (by decide +kernel) (by decide +kernel)
set_option maxRecDepth 20000 in
theorem gX3_membersFrom_X3_find : GoodIn wsX3_membersFrom (wsV RX3 64 RX3 yX3_find wsX3_find) := goodIn_app (goodIn_of _ (by decide +kernel)) ggX3_membersFrom_X3_find
set_option maxRecDepth 20000 in
theorem ggX3_firstThatChose_X3_isPlace : GoodIn wsX3_firstThatChose wsX3_isPlace := goodIn_r _ [5] (by decide +kernel) (by decide +kernel)
set_option maxRecDepth 20000 in
theorem gX3_firstThatChose_X3_isPlace : GoodIn wsX3_firstThatChose (va_wsS RX3 68 yX3_isPlace wsX3_isPlace) := goodIn_app (goodIn_of _ (by decide +kernel)) ggX3_firstThatChose_X3_isPlace
set_option maxRecDepth 20000 in
theorem ggX3_firstThatChose_X3_find : GoodIn wsX3_firstThatChose wsX3_find := goodIn_r _ [9, 1, 10, 25, 26, 27, 28, 29, 30, 31, 32] (by decide +kernel) (by decide +kernel)
set_option maxRecDepth 20000 in
theorem gX3_firstThatChose_X3_find : GoodIn wsX3_firstThatChose (wsV RX3 64 RX3 yX3_find wsX3_find) := goodIn_app (goodIn_of _ (by decide +kernel)) ggX3_firstThatChose_X3_find
set_option maxRecDepth 20000 in
theorem ggX3_firstThatChose_X1_hasChosen : GoodIn wsX3_firstThatChose wsX1_hasChosen := goodIn_r _ [15, 16, 17, 3, 4, 5, 18, 19, 20, 21, 22, 23, 24, 33, 34, 35, 36, 37, 38, 39, 40, 41, 42, 43, 44, 45, 46] (by decide +kernel) (by decide +kernel)
set_option maxRecDepth 20000 in
theorem gX3_firstThatChose_X1_hasChosen : GoodIn wsX3_firstThatChose (wsV RX3 160 RX1 yX1_hasChosen wsX1_hasChosen) := goodIn_app (goodIn_of _ (by decide +kernel)) ggX3_firstThatChose_X1_hasChosen
set_option maxRecDepth 20000 in
theorem ggX3_sendToEach_X0_send : GoodIn wsX3_sendToEach wsX0_send := goodIn_r _ [8, 9, 10, 11, 12, 13, 14, 15, 45, 46, 47, 48, 49, 50, 51] (by decide +kernel) (by decide +kernel)
set_option maxRecDepth 20000 in
theorem gX3_sendToEach_X0_send : GoodIn wsX3_sendToEach (wsV RX3 60 RX0 yX0_send wsX0_send) := goodIn_app (goodIn_of _ (by decide +kernel)) ggX3_sendToEach_X0_send
set_option maxRecDepth 20000 in
theorem ggX3_sendToEach_J6_bitCount_0f7a4 : GoodIn wsX3_sendToEach wsJ6_bitCount_0f7a4 := goodIn_r _ [19, 20, 21, 22] (by decide +kernel) (by decide +kernel)
set_option maxRecDepth 20000 in
theorem gX3_sendToEach_J6_bitCount_0f7a4 : GoodIn wsX3_sendToEach (va_wsS RX3 183 yJ6_bitCount_0f7a4 wsJ6_bitCount_0f7a4) := goodIn_app (goodIn_of _ (by decide +kernel)) ggX3_sendToEach_J6_bitCount_0f7a4
set_option maxRecDepth 20000 in
theorem ggX3_sendMissingVotes_X1_hasWord : GoodIn wsX3_sendMissingVotes wsX1_hasWord := goodIn_r _ [7, 8, 9, 46, 47, 48, 49, 50, 51, 52, 53, 54, 55, 56, 57, 58, 59] (by decide +kernel) (by decide +kernel)
set_option maxRecDepth 20000 in
theorem gX3_sendMissingVotes_X1_hasWord : GoodIn wsX3_sendMissingVotes (wsV RX3 75 RX1 yX1_hasWord wsX1_hasWord) := goodIn_app (goodIn_of _ (by decide +kernel)) ggX3_sendMissingVotes_X1_hasWord
set_option maxRecDepth 20000 in
theorem ggX3_sendMissingVotes_X1_knows : GoodIn wsX3_sendMissingVotes wsX1_knows := goodIn_r _ [13, 14, 15, 16, 17, 18, 19, 20, 21, 22, 23, 24, 25, 46, 47, 48, 49, 50, 51, 52, 53, 54, 55, 56, 57, 58, 59] (by decide +kernel) (by decide +kernel)
set_option maxRecDepth 20000 in
theorem gX3_sendMissingVotes_X1_knows : GoodIn wsX3_sendMissingVotes (wsV RX3 188 RX1 yX1_knows wsX1_knows) := goodIn_app (goodIn_of _ (by decide +kernel)) ggX3_sendMissingVotes_X1_knows
set_option maxRecDepth 20000 in
theorem ggX3_sendMissingVotes_X3_sendToEach : GoodIn wsX3_sendMissingVotes wsX3_sendToEach := goodIn_r _ [29, 30, 31, 32, 33, 34, 35, 36, 37, 38, 39, 40, 41, 42, 43, 44, 45, 20, 21, 22, 23, 24, 25, 60, 61, 62, 63, 64, 65, 66, 67, 46, 47, 48, 49, 50, 51, 52, 53, 54, 55, 56, 57, 58, 59, 68, 69, 70, 71, 72, 73, 74] (by decide +kernel) (by decide +kernel)
set_option maxRecDepth 20000 in
theorem gX3_sendMissingVotes_X3_sendToEach : GoodIn wsX3_sendMissingVotes (wsV RX3 87 RX3 yX3_sendToEach wsX3_sendToEach) := goodIn_app (goodIn_of _ (by decide +kernel)) ggX3_sendMissingVotes_X3_sendToEach
set_option maxRecDepth 20000 in
theorem ggX3_firstDeliverable_X3_isForSilent : GoodIn wsX3_firstDeliverable wsX3_isForSilent := goodIn_r _ [7, 1, 8, 9, 10, 11, 12, 13, 14, 15, 16, 17, 18, 19, 20, 21, 22, 23, 24, 25] (by decide +kernel) (by decide +kernel)
set_option maxRecDepth 20000 in
theorem gX3_firstDeliverable_X3_isForSilent : GoodIn wsX3_firstDeliverable (wsV RX3 107 RX3 yX3_isForSilent wsX3_isForSilent) := goodIn_app (goodIn_of _ (by decide +kernel)) ggX3_firstDeliverable_X3_isForSilent
set_option maxRecDepth 20000 in
theorem ggX3_handOver_X3_find : GoodIn wsX3_handOver wsX3_find := goodIn_r _ [11, 12, 13, 148, 149, 150, 151, 152, 153, 154, 155] (by decide +kernel) (by decide +kernel)
set_option maxRecDepth 20000 in
theorem gX3_handOver_X3_find : GoodIn wsX3_handOver (wsV RX3 64 RX3 yX3_find wsX3_find) := goodIn_app (goodIn_of _ (by decide +kernel)) ggX3_handOver_X3_find
set_option maxRecDepth 20000 in
theorem ggX3_handOver_X0_drop : GoodIn wsX3_handOver wsX0_drop := goodIn_r _ [18, 19, 20, 21, 22, 23, 24, 25, 26, 27, 28, 29, 30, 31, 17, 32, 156, 157, 158, 159, 160, 161, 162] (by decide +kernel) (by decide +kernel)
set_option maxRecDepth 20000 in
theorem gX3_handOver_X0_drop : GoodIn wsX3_handOver (wsV RX3 118 RX0 yX0_drop wsX0_drop) := goodIn_app (goodIn_of _ (by decide +kernel)) ggX3_handOver_X0_drop
set_option maxRecDepth 20000 in
theorem ggX3_handOver_X3_newComes : GoodIn wsX3_handOver wsX3_newComes := goodIn_r _ [36, 37, 38, 39, 40, 41, 10, 42, 43, 1, 44, 45, 46, 47, 17, 48, 19, 49, 20, 25, 26, 27, 28, 50, 51, 52, 53, 54, 55, 56, 57, 58, 59, 60, 61, 62, 63, 64, 65, 66, 67, 68, 69, 70, 71, 72, 73, 7, 8, 9, 11, 12, 13, 74, 75, 76, 77, 78, 79, 80, 81, 82, 83, 84, 85, 86, 87, 88, 89, 90, 91, 92, 93, 94, 95, 96, 97, 98, 99, 163, 164, 165, 166, 167, 168, 169, 170, 171, 172, 173, 174, 175, 176, 148, 149, 150, 151, 152, 153, 154, 155, 156, 157, 158, 159, 160, 161, 162] (by decide +kernel) (by decide +kernel)
set_option maxRecDepth 20000 in
theorem gX3_handOver_X3_newComes : GoodIn wsX3_handOver (wsV RX3 191 RX3 yX3_newComes wsX3_newComes) := goodIn_app (goodIn_of _ (by decide +kernel)) ggX3_handOver_X3_newComes
set_option maxRecDepth 20000 in
theorem ggX3_handOver_X3_readComes : GoodIn wsX3_handOver wsX3_readComes := goodIn_r _ [103, 104, 44, 1, 105, 106, 107, 108, 10, 109, 43, 45, 46, 47, 17, 48, 19, 49, 20, 25, 26, 27, 28, 148, 149, 150, 151, 152, 153, 154, 155, 163, 164, 165, 166, 167, 168, 169, 170, 171, 172, 173, 174, 175, 176, 156, 157, 158, 159, 160, 161, 162] (by decide +kernel) (by decide +kernel)
set_option maxRecDepth 20000 in
theorem gX3_handOver_X3_readComes : GoodIn wsX3_handOver (wsV RX3 195 RX3 yX3_readComes wsX3_readComes) := goodIn_app (goodIn_of _ (by decide +kernel)) ggX3_handOver_X3_readComes
set_option maxRecDepth 20000 in
theorem ggX3_handOver_X3_readAnswerComes : GoodIn wsX3_handOver wsX3_readAnswerComes := goodIn_r _ [113, 37, 72, 114, 115, 116, 10, 117, 44, 118, 61, 119, 120, 121, 122, 123, 124, 7, 8, 9, 11, 12, 13, 57, 58, 59, 60, 1, 62, 63, 64, 65, 66, 67, 68, 69, 70, 71, 73, 50, 51, 52, 53, 54, 55, 56, 74, 75, 76, 77, 78, 79, 80, 81, 82, 83, 84, 85, 86, 87, 88, 89, 90, 91, 92, 93, 94, 39, 40, 41, 42, 43, 45, 46, 47, 17, 48, 19, 49, 20, 25, 26, 27, 28, 95, 96, 97, 98, 99, 163, 164, 165, 166, 167, 168, 169, 170, 171, 172, 173, 174, 175, 176, 148, 149, 150, 151, 152, 153, 154, 155, 156, 157, 158, 159, 160, 161, 162] (by decide +kernel) (by decide +kernel)
set_option maxRecDepth 20000 in
theorem gX3_handOver_X3_readAnswerComes : GoodIn wsX3_handOver (wsV RX3 199 RX3 yX3_readAnswerComes wsX3_readAnswerComes) := goodIn_app (goodIn_of _ (by decide +kernel)) ggX3_handOver_X3_readAnswerComes
set_option maxRecDepth 20000 in
theorem ggX3_handOver_X3_voteComes : GoodIn wsX3_handOver wsX3_voteComes := goodIn_r _ [128, 104, 44, 105, 129, 1, 106, 107, 108, 10, 109, 43, 130, 92, 93, 131, 132, 122, 133, 124, 134, 45, 46, 47, 17, 48, 19, 49, 20, 25, 26, 27, 28, 148, 149, 150, 151, 152, 153, 154, 155, 163, 164, 165, 166, 167, 168, 169, 170, 171, 172, 173, 174, 175, 176, 156, 157, 158, 159, 160, 161, 162] (by decide +kernel) (by decide +kernel)
set_option maxRecDepth 20000 in
theorem gX3_handOver_X3_voteComes : GoodIn wsX3_handOver (wsV RX3 203 RX3 yX3_voteComes wsX3_voteComes) := goodIn_app (goodIn_of _ (by decide +kernel)) ggX3_handOver_X3_voteComes
set_option maxRecDepth 20000 in
theorem ggX3_handOver_X3_voteAnswerComes : GoodIn wsX3_handOver wsX3_voteAnswerComes := goodIn_r _ [138, 37, 78, 130, 92, 10, 93, 57, 58, 59, 60, 61, 1, 44, 62, 63, 64, 65, 66, 67, 68, 69, 70, 71, 72, 73, 7, 8, 9, 11, 12, 13, 50, 51, 52, 53, 54, 55, 56, 74, 75, 76, 77, 79, 80, 81, 82, 83, 84, 85, 86, 87, 88, 89, 90, 91, 94, 39, 40, 41, 42, 43, 45, 46, 47, 17, 48, 19, 49, 20, 25, 26, 27, 28, 95, 96, 97, 98, 99, 163, 164, 165, 166, 167, 168, 169, 170, 171, 172, 173, 174, 175, 176, 148, 149, 150, 151, 152, 153, 154, 155, 156, 157, 158, 159, 160, 161, 162] (by decide +kernel) (by decide +kernel)
set_option maxRecDepth 20000 in
theorem gX3_handOver_X3_voteAnswerComes : GoodIn wsX3_handOver (wsV RX3 207 RX3 yX3_voteAnswerComes wsX3_voteAnswerComes) := goodIn_app (goodIn_of _ (by decide +kernel)) ggX3_handOver_X3_voteAnswerComes
set_option maxRecDepth 20000 in
theorem ggX3_handOver_X3_completeComes : GoodIn wsX3_handOver wsX3_completeComes := goodIn_r _ [142, 143, 66, 44, 1, 45, 46, 47, 17, 48, 19, 49, 20, 25, 26, 27, 28, 148, 149, 150, 151, 152, 153, 154, 155, 163, 164, 165, 166, 167, 168, 169, 170, 171, 172, 173, 174, 175, 176, 156, 157, 158, 159, 160, 161, 162] (by decide +kernel) (by decide +kernel)
set_option maxRecDepth 20000 in
theorem gX3_handOver_X3_completeComes : GoodIn wsX3_handOver (wsV RX3 210 RX3 yX3_completeComes wsX3_completeComes) := goodIn_app (goodIn_of _ (by decide +kernel)) ggX3_handOver_X3_completeComes
set_option maxRecDepth 20000 in
theorem ggX3_handOver_X3_activeComes : GoodIn wsX3_handOver wsX3_activeComes := goodIn_r _ [147, 37, 163, 164, 165, 166, 167, 168, 169, 170, 171, 172, 173, 174, 175, 176] (by decide +kernel) (by decide +kernel)
set_option maxRecDepth 20000 in
theorem gX3_handOver_X3_activeComes : GoodIn wsX3_handOver (wsV RX3 213 RX3 yX3_activeComes wsX3_activeComes) := goodIn_app (goodIn_of _ (by decide +kernel)) ggX3_handOver_X3_activeComes
set_option maxRecDepth 20000 in
theorem ggX3_newComes_X3_sendToEach : GoodIn wsX3_newComes wsX3_sendToEach := goodIn_r _ [7, 8, 9, 10, 11, 12, 13, 14, 15, 16, 17, 18, 19, 20, 21, 22, 23, 24, 25, 26, 27, 28, 29, 93, 94, 95, 96, 97, 98, 99, 100, 79, 80, 81, 82, 83, 84, 85, 86, 87, 88, 89, 90, 91, 92, 101, 102, 103, 104, 105, 106, 107] (by decide +kernel) (by decide +kernel)
set_option maxRecDepth 20000 in
theorem gX3_newComes_X3_sendToEach : GoodIn wsX3_newComes (wsV RX3 87 RX3 yX3_sendToEach wsX3_sendToEach) := goodIn_app (goodIn_of _ (by decide +kernel)) ggX3_newComes_X3_sendToEach
set_option maxRecDepth 20000 in
theorem ggX3_newComes_X3_goOn : GoodIn wsX3_newComes wsX3_goOn := goodIn_r _ [33, 1, 34, 9, 10, 35, 36, 37, 6, 38, 39, 40, 41, 42, 43, 44, 45, 46, 47, 48, 49, 50, 51, 52, 23, 24, 25, 26, 27, 28, 29, 53, 54, 55, 56, 57, 58, 59, 60, 61, 62, 63, 64, 65, 66, 67, 68, 69, 70, 71, 72, 73, 3, 4, 5, 7, 8, 11, 12, 13, 14, 15, 16, 17, 18, 19, 20, 21, 22, 74, 75, 76, 77, 78, 79, 80, 81, 82, 83, 84, 85, 86, 87, 88, 89, 90, 91, 92, 93, 94, 95, 96, 97, 98, 99, 100, 101, 102, 103, 104, 105, 106, 107] (by decide +kernel) (by decide +kernel)
set_option maxRecDepth 20000 in
theorem gX3_newComes_X3_goOn : GoodIn wsX3_newComes (wsV RX3 216 RX3 yX3_goOn wsX3_goOn) := goodIn_app (goodIn_of _ (by decide +kernel)) ggX3_newComes_X3_goOn
set_option maxRecDepth 20000 in
theorem ggX3_readComes_X3_isVoter : GoodIn wsX3_readComes wsX3_isVoter := goodIn_r _ [9, 10, 23, 24, 25, 26, 27, 28, 29, 30] (by decide +kernel) (by decide +kernel)
set_option maxRecDepth 20000 in
theorem gX3_readComes_X3_isVoter : GoodIn wsX3_readComes (wsV RX3 127 RX3 yX3_isVoter wsX3_isVoter) := goodIn_app (goodIn_of _ (by decide +kernel)) ggX3_readComes_X3_isVoter
set_option maxRecDepth 20000 in
theorem ggX3_readComes_X0_send : GoodIn wsX3_readComes wsX0_send := goodIn_r _ [15, 16, 17, 18, 19, 20, 21, 22, 45, 46, 47, 48, 49, 50, 51] (by decide +kernel) (by decide +kernel)
set_option maxRecDepth 20000 in
theorem gX3_readComes_X0_send : GoodIn wsX3_readComes (wsV RX3 60 RX0 yX0_send wsX0_send) := goodIn_app (goodIn_of _ (by decide +kernel)) ggX3_readComes_X0_send
set_option maxRecDepth 20000 in
theorem ggX3_readAnswerComes_X3_takeFound : GoodIn wsX3_readAnswerComes wsX3_takeFound := goodIn_r _ [7, 8, 9, 10, 11, 12, 13, 14, 15, 16, 17, 18, 19, 6, 20, 21, 22, 89, 90, 91, 92, 93, 94, 95, 96, 97, 98, 99, 100, 101, 102, 103, 104, 105, 106, 107, 108, 109, 110] (by decide +kernel) (by decide +kernel)
set_option maxRecDepth 20000 in
theorem gX3_readAnswerComes_X3_takeFound : GoodIn wsX3_readAnswerComes (wsV RX3 219 RX3 yX3_takeFound wsX3_takeFound) := goodIn_app (goodIn_of _ (by decide +kernel)) ggX3_readAnswerComes_X3_takeFound
set_option maxRecDepth 20000 in
theorem ggX3_readAnswerComes_X3_goOn : GoodIn wsX3_readAnswerComes wsX3_goOn := goodIn_r _ [26, 1, 10, 27, 8, 28, 29, 30, 6, 31, 32, 33, 34, 35, 36, 37, 2, 38, 17, 18, 19, 20, 21, 22, 39, 40, 41, 42, 43, 44, 45, 46, 47, 48, 49, 50, 51, 52, 53, 54, 55, 56, 57, 58, 59, 60, 61, 62, 63, 64, 65, 66, 67, 68, 69, 70, 71, 72, 73, 74, 75, 76, 77, 78, 79, 80, 81, 82, 83, 84, 85, 86, 87, 88, 89, 90, 91, 92, 93, 94, 95, 96, 97, 98, 99, 100, 101, 102, 103, 104, 105, 106, 107, 108, 109, 110, 111, 112, 113, 114, 115, 116, 117] (by decide +kernel) (by decide +kernel)
set_option maxRecDepth 20000 in
theorem gX3_readAnswerComes_X3_goOn : GoodIn wsX3_readAnswerComes (wsV RX3 216 RX3 yX3_goOn wsX3_goOn) := goodIn_app (goodIn_of _ (by decide +kernel)) ggX3_readAnswerComes_X3_goOn
set_option maxRecDepth 20000 in
theorem ggX3_takeFound_X2_at : GoodIn wsX3_takeFound wsX2_at := goodIn_r _ [8, 9] (by decide +kernel) (by decide +kernel)
set_option maxRecDepth 20000 in
theorem gX3_takeFound_X2_at : GoodIn wsX3_takeFound (va_wsS RX3 133 yX2_at wsX2_at) := goodIn_app (goodIn_of _ (by decide +kernel)) ggX3_takeFound_X2_at
set_option maxRecDepth 20000 in
theorem ggX3_takeFound_X3_find : GoodIn wsX3_takeFound wsX3_find := goodIn_r _ [14, 15, 16, 31, 32, 33, 34, 35, 36, 37, 38] (by decide +kernel) (by decide +kernel)
set_option maxRecDepth 20000 in
theorem gX3_takeFound_X3_find : GoodIn wsX3_takeFound (wsV RX3 64 RX3 yX3_find wsX3_find) := goodIn_app (goodIn_of _ (by decide +kernel)) ggX3_takeFound_X3_find
set_option maxRecDepth 20000 in
theorem ggX3_voteComes_X3_isVoter : GoodIn wsX3_voteComes wsX3_isVoter := goodIn_r _ [10, 11, 33, 34, 35, 36, 37, 38, 39, 40] (by decide +kernel) (by decide +kernel)
set_option maxRecDepth 20000 in
theorem gX3_voteComes_X3_isVoter : GoodIn wsX3_voteComes (wsV RX3 127 RX3 yX3_isVoter wsX3_isVoter) := goodIn_app (goodIn_of _ (by decide +kernel)) ggX3_voteComes_X3_isVoter
set_option maxRecDepth 20000 in
theorem ggX3_voteComes_X3_isPlace : GoodIn wsX3_voteComes wsX3_isPlace := goodIn_r _ [14] (by decide +kernel) (by decide +kernel)
set_option maxRecDepth 20000 in
theorem gX3_voteComes_X3_isPlace : GoodIn wsX3_voteComes (va_wsS RX3 68 yX3_isPlace wsX3_isPlace) := goodIn_app (goodIn_of _ (by decide +kernel)) ggX3_voteComes_X3_isPlace
set_option maxRecDepth 20000 in
theorem ggX3_voteComes_X2_with : GoodIn wsX3_voteComes wsX2_with := goodIn_r _ [18, 19, 20] (by decide +kernel) (by decide +kernel)
set_option maxRecDepth 20000 in
theorem gX3_voteComes_X2_with : GoodIn wsX3_voteComes (va_wsS RX3 226 yX2_with wsX2_with) := goodIn_app (goodIn_of _ (by decide +kernel)) ggX3_voteComes_X2_with
set_option maxRecDepth 20000 in
theorem ggX3_voteComes_X0_send : GoodIn wsX3_voteComes wsX0_send := goodIn_r _ [25, 26, 27, 28, 29, 30, 31, 32, 55, 56, 57, 58, 59, 60, 61] (by decide +kernel) (by decide +kernel)
set_option maxRecDepth 20000 in
theorem gX3_voteComes_X0_send : GoodIn wsX3_voteComes (wsV RX3 60 RX0 yX0_send wsX0_send) := goodIn_app (goodIn_of _ (by decide +kernel)) ggX3_voteComes_X0_send
set_option maxRecDepth 20000 in
theorem ggX3_voteAnswerComes_X3_isPlace : GoodIn wsX3_voteAnswerComes wsX3_isPlace := goodIn_r _ [6] (by decide +kernel) (by decide +kernel)
set_option maxRecDepth 20000 in
theorem gX3_voteAnswerComes_X3_isPlace : GoodIn wsX3_voteAnswerComes (va_wsS RX3 68 yX3_isPlace wsX3_isPlace) := goodIn_app (goodIn_of _ (by decide +kernel)) ggX3_voteAnswerComes_X3_isPlace
set_option maxRecDepth 20000 in
theorem ggX3_voteAnswerComes_X3_goOn : GoodIn wsX3_voteAnswerComes wsX3_goOn := goodIn_r _ [10, 1, 11, 12, 13, 14, 15, 16, 5, 17, 18, 19, 20, 21, 22, 23, 24, 25, 26, 27, 28, 29, 30, 31, 32, 33, 34, 35, 36, 37, 38, 39, 40, 41, 42, 2, 43, 44, 45, 46, 47, 48, 49, 50, 51, 52, 53, 54, 55, 4, 6, 56, 57, 58, 59, 60, 61, 62, 63, 64, 65, 66, 67, 68, 69, 70, 71, 72, 73, 74, 75, 76, 77, 78, 79, 80, 81, 82, 83, 84, 85, 86, 87, 88, 89, 90, 91, 92, 93, 94, 95, 96, 97, 98, 99, 100, 101, 102, 103, 104, 105, 106, 107] (by decide +kernel) (by decide +kernel)
set_option maxRecDepth 20000 in
theorem gX3_voteAnswerComes_X3_goOn : GoodIn wsX3_voteAnswerComes (wsV RX3 216 RX3 yX3_goOn wsX3_goOn) := goodIn_app (goodIn_of _ (by decide +kernel)) ggX3_voteAnswerComes_X3_goOn
set_option maxRecDepth 20000 in
theorem ggX3_completeComes_X0_send : GoodIn wsX3_completeComes wsX0_send := goodIn_r _ [9, 10, 11, 12, 13, 14, 15, 16, 39, 40, 41, 42, 43, 44, 45] (by decide +kernel) (by decide +kernel)
set_option maxRecDepth 20000 in
theorem gX3_completeComes_X0_send : GoodIn wsX3_completeComes (wsV RX3 60 RX0 yX0_send wsX0_send) := goodIn_app (goodIn_of _ (by decide +kernel)) ggX3_completeComes_X0_send
set_option maxRecDepth 20000 in
theorem ggX3_goOn_X3_isReadingOver : GoodIn wsX3_goOn wsX3_isReadingOver := goodIn_r _ [9, 10, 11, 12, 13, 14, 4, 15, 16, 17, 18, 19, 20, 8, 21, 22, 23, 24, 25, 26, 27, 28, 29, 30, 74, 75, 76, 77, 78, 79, 80, 81, 82, 83, 84, 85, 86, 87, 88, 89, 90, 91, 92, 93, 94, 95] (by decide +kernel) (by decide +kernel)
set_option maxRecDepth 20000 in
theorem gX3_goOn_X3_isReadingOver : GoodIn wsX3_goOn (wsV RX3 233 RX3 yX3_isReadingOver wsX3_isReadingOver) := goodIn_app (goodIn_of _ (by decide +kernel)) ggX3_goOn_X3_isReadingOver
set_option maxRecDepth 20000 in
theorem ggX3_goOn_X3_sendMissingVotes : GoodIn wsX3_goOn wsX3_sendMissingVotes := goodIn_r _ [34, 15, 35, 36, 37, 38, 39, 40, 41, 42, 43, 44, 45, 46, 47, 48, 49, 8, 50, 51, 25, 26, 27, 28, 29, 30, 52, 53, 54, 55, 56, 3, 4, 57, 58, 59, 60, 61, 62, 63, 64, 65, 66, 67, 68, 24, 74, 75, 76, 77, 78, 79, 80, 81, 82, 83, 84, 85, 86, 87, 88, 89, 90, 91, 92, 93, 94, 95, 96, 97, 98, 99, 100, 101, 102] (by decide +kernel) (by decide +kernel)
set_option maxRecDepth 20000 in
theorem gX3_goOn_X3_sendMissingVotes : GoodIn wsX3_goOn (wsV RX3 100 RX3 yX3_sendMissingVotes wsX3_sendMissingVotes) := goodIn_app (goodIn_of _ (by decide +kernel)) ggX3_goOn_X3_sendMissingVotes
set_option maxRecDepth 20000 in
theorem ggX3_goOn_X1_knownPlaces : GoodIn wsX3_goOn wsX1_knownPlaces := goodIn_r _ [72, 73, 44, 45, 39, 46, 47, 48, 49, 8, 50, 51, 25, 26, 27, 28, 29, 30, 74, 75, 76, 77, 78, 79, 80, 81, 82, 83, 84, 85, 86, 87] (by decide +kernel) (by decide +kernel)
set_option maxRecDepth 20000 in
theorem gX3_goOn_X1_knownPlaces : GoodIn wsX3_goOn (wsV RX3 151 RX1 yX1_knownPlaces wsX1_knownPlaces) := goodIn_app (goodIn_of _ (by decide +kernel)) ggX3_goOn_X1_knownPlaces
set_option maxRecDepth 20000 in
theorem ggX3_goOn_X0_send : GoodIn wsX3_goOn wsX0_send := goodIn_r _ [61, 62, 63, 64, 65, 66, 67, 68, 96, 97, 98, 99, 100, 101, 102] (by decide +kernel) (by decide +kernel)
set_option maxRecDepth 20000 in
theorem gX3_goOn_X0_send : GoodIn wsX3_goOn (wsV RX3 60 RX0 yX0_send wsX0_send) := goodIn_app (goodIn_of _ (by decide +kernel)) ggX3_goOn_X0_send
set_option maxRecDepth 20000 in
theorem ggX3_isReadingOver_X3_find : GoodIn wsX3_isReadingOver wsX3_find := goodIn_r _ [14, 15, 16, 38, 39, 40, 41, 42, 43, 44, 45] (by decide +kernel) (by decide +kernel)
set_option maxRecDepth 20000 in
theorem gX3_isReadingOver_X3_find : GoodIn wsX3_isReadingOver (wsV RX3 64 RX3 yX3_find wsX3_find) := goodIn_app (goodIn_of _ (by decide +kernel)) ggX3_isReadingOver_X3_find
set_option maxRecDepth 20000 in
theorem ggX3_isReadingOver_J6_bitCount_0f7a4 : GoodIn wsX3_isReadingOver wsJ6_bitCount_0f7a4 := goodIn_r _ [20, 21, 22, 23] (by decide +kernel) (by decide +kernel)
set_option maxRecDepth 20000 in
theorem gX3_isReadingOver_J6_bitCount_0f7a4 : GoodIn wsX3_isReadingOver (va_wsS RX3 183 yJ6_bitCount_0f7a4 wsJ6_bitCount_0f7a4) := goodIn_app (goodIn_of _ (by decide +kernel)) ggX3_isReadingOver_J6_bitCount_0f7a4
set_option maxRecDepth 20000 in
theorem ggX4_take_X4_copy : GoodIn wsX4_take wsX4_copy := goodIn_r _ [6, 7, 8, 9, 10, 11, 12, 13, 14, 15, 16, 17, 18, 19, 20, 21, 22, 23, 24, 25, 26, 27, 28, 29, 30, 31, 32, 33, 34, 35, 36, 37, 38, 39, 40, 41, 42, 43, 44] (by decide +kernel) (by decide +kernel)
set_option maxRecDepth 20000 in
theorem gX4_take_X4_copy : GoodIn wsX4_take (wsV RX4 103 RX4 yX4_copy wsX4_copy) := goodIn_app (goodIn_of _ (by decide +kernel)) ggX4_take_X4_copy
set_option maxRecDepth 20000 in
theorem ggX4_ballot_X4_many : GoodIn wsX4_ballot wsX4_many := goodIn_r _ [11] (by decide +kernel) (by decide +kernel)
set_option maxRecDepth 20000 in
theorem gX4_ballot_X4_many : GoodIn wsX4_ballot (va_wsS RX4 107 yX4_many wsX4_many) := goodIn_app (goodIn_of _ (by decide +kernel)) ggX4_ballot_X4_many
set_option maxRecDepth 20000 in
theorem ggX4_ballot_X4_put : GoodIn wsX4_ballot wsX4_put := goodIn_r _ [15, 16, 17, 18, 19, 20, 21, 22, 23, 24, 25, 26, 27, 28, 29, 30, 31, 32, 33, 34, 35, 36, 37, 38, 39, 40, 41, 42, 43, 44, 45, 46, 47, 48, 49, 50, 51, 52, 53, 54, 55, 56, 57] (by decide +kernel) (by decide +kernel)
set_option maxRecDepth 20000 in
theorem gX4_ballot_X4_put : GoodIn wsX4_ballot (wsV RX4 114 RX4 yX4_put wsX4_put) := goodIn_app (goodIn_of _ (by decide +kernel)) ggX4_ballot_X4_put
set_option maxRecDepth 20000 in
theorem ggX4_asked_X4_firstRead : GoodIn wsX4_asked wsX4_firstRead := goodIn_r _ [6, 7, 8, 9, 10, 11, 12, 13, 14, 15, 16, 17, 18, 19, 20, 21, 22, 23, 24, 25, 26, 27, 28, 29, 30, 31, 32, 33, 34, 35, 36, 37, 38] (by decide +kernel) (by decide +kernel)
set_option maxRecDepth 20000 in
theorem gX4_asked_X4_firstRead : GoodIn wsX4_asked (wsV RX4 118 RX4 yX4_firstRead wsX4_firstRead) := goodIn_app (goodIn_of _ (by decide +kernel)) ggX4_asked_X4_firstRead
set_option maxRecDepth 20000 in
theorem ggX4_sendReads_X4_asked : GoodIn wsX4_sendReads wsX4_asked := goodIn_r _ [7, 8, 9, 10, 11, 6, 12, 13, 29, 30, 31, 32, 33, 34, 35, 36, 37, 38, 39, 40, 41, 42, 43, 44, 45, 46, 47, 48, 49, 50, 51, 52, 53, 54, 55, 56, 57, 58, 59] (by decide +kernel) (by decide +kernel)
set_option maxRecDepth 20000 in
theorem gX4_sendReads_X4_asked : GoodIn wsX4_sendReads (wsV RX4 121 RX4 yX4_asked wsX4_asked) := goodIn_app (goodIn_of _ (by decide +kernel)) ggX4_sendReads_X4_asked
set_option maxRecDepth 20000 in
theorem ggX4_sendReads_X4_put : GoodIn wsX4_sendReads wsX4_put := goodIn_r _ [17, 18, 19, 20, 21, 22, 23, 24, 25, 26, 27, 28, 29, 30, 31, 32, 33, 34, 35, 36, 37, 38, 39, 40, 41, 42, 43, 44, 45, 46, 47, 48, 49, 50, 51, 52, 53, 54, 55, 56, 57, 58, 59] (by decide +kernel) (by decide +kernel)
set_option maxRecDepth 20000 in
theorem gX4_sendReads_X4_put : GoodIn wsX4_sendReads (wsV RX4 114 RX4 yX4_put wsX4_put) := goodIn_app (goodIn_of _ (by decide +kernel)) ggX4_sendReads_X4_put
set_option maxRecDepth 20000 in
theorem ggX4_sendVotes_X4_put : GoodIn wsX4_sendVotes wsX4_put := goodIn_r _ [9, 10, 11, 12, 13, 14, 15, 16, 17, 18, 19, 20, 21, 22, 23, 24, 25, 26, 27, 28, 29, 30, 31, 32, 33, 34, 35, 36, 37, 38, 39, 40, 41, 42, 43, 44, 45, 46, 47, 48, 49, 50, 51] (by decide +kernel) (by decide +kernel)
set_option maxRecDepth 20000 in
theorem gX4_sendVotes_X4_put : GoodIn wsX4_sendVotes (wsV RX4 114 RX4 yX4_put wsX4_put) := goodIn_app (goodIn_of _ (by decide +kernel)) ggX4_sendVotes_X4_put
set_option maxRecDepth 20000 in
theorem ggX4_isRead_X4_firstRead : GoodIn wsX4_isRead wsX4_firstRead := goodIn_r _ [8, 9, 13, 14, 15, 16, 17, 18, 19, 20, 21, 22, 23, 24, 25, 26, 27, 28, 29, 30, 31, 32, 33, 34, 35, 36, 37, 38, 39, 40, 41, 42, 43] (by decide +kernel) (by decide +kernel)
set_option maxRecDepth 20000 in
theorem gX4_isRead_X4_firstRead : GoodIn wsX4_isRead (wsV RX4 118 RX4 yX4_firstRead wsX4_firstRead) := goodIn_app (goodIn_of _ (by decide +kernel)) ggX4_isRead_X4_firstRead
set_option maxRecDepth 20000 in
theorem ggX4_isRead_X4_many : GoodIn wsX4_isRead wsX4_many := goodIn_r _ [12] (by decide +kernel) (by decide +kernel)
set_option maxRecDepth 20000 in
theorem gX4_isRead_X4_many : GoodIn wsX4_isRead (va_wsS RX4 107 yX4_many wsX4_many) := goodIn_app (goodIn_of _ (by decide +kernel)) ggX4_isRead_X4_many
set_option maxRecDepth 20000 in
theorem ggX4_beginReading_X4_sendReads : GoodIn wsX4_beginReading wsX4_sendReads := goodIn_r _ [6, 7, 8, 9, 10, 11, 5, 12, 13, 14, 15, 16, 17, 18, 19, 20, 21, 22, 23, 24, 25, 26, 27, 28, 29, 30, 31, 32, 33, 62, 63, 64, 65, 66, 67, 68, 69, 70, 71, 72, 73, 74, 75, 76, 77, 78, 79, 80, 81, 82, 83, 84, 85, 86, 87, 88, 89, 90, 91, 92] (by decide +kernel) (by decide +kernel)
set_option maxRecDepth 20000 in
theorem gX4_beginReading_X4_sendReads : GoodIn wsX4_beginReading (wsV RX4 124 RX4 yX4_sendReads wsX4_sendReads) := goodIn_app (goodIn_of _ (by decide +kernel)) ggX4_beginReading_X4_sendReads
set_option maxRecDepth 20000 in
theorem ggX4_beginReading_X4_isRead : GoodIn wsX4_beginReading wsX4_isRead := goodIn_r _ [37, 8, 13, 38, 14, 15, 16, 5, 17, 18, 39, 40, 41, 62, 63, 64, 65, 66, 67, 68, 69, 70, 71, 72, 73, 74, 75, 76, 77, 78, 79, 80, 81, 82, 83, 84, 85, 86, 87, 88, 89, 90, 91, 92] (by decide +kernel) (by decide +kernel)
set_option maxRecDepth 20000 in
theorem gX4_beginReading_X4_isRead : GoodIn wsX4_beginReading (wsV RX4 127 RX4 yX4_isRead wsX4_isRead) := goodIn_app (goodIn_of _ (by decide +kernel)) ggX4_beginReading_X4_isRead
set_option maxRecDepth 20000 in
theorem ggX4_beginReading_X4_beginMoving : GoodIn wsX4_beginReading wsX4_beginMoving := goodIn_r _ [45, 1, 46, 47, 48, 49, 5, 50, 7, 13, 51, 52, 19, 20, 21, 22, 23, 24, 25, 26, 27, 28, 29, 30, 31, 32, 33, 53, 54, 55, 56, 57, 58, 59, 60, 61, 62, 63, 64, 65, 66, 67, 68, 69, 70, 71, 72, 73, 74, 75, 76, 77, 78, 79, 80, 81, 82, 83, 84, 85, 86, 87, 88, 89, 90, 91, 92] (by decide +kernel) (by decide +kernel)
set_option maxRecDepth 20000 in
theorem gX4_beginReading_X4_beginMoving : GoodIn wsX4_beginReading (wsV RX4 131 RX4 yX4_beginMoving wsX4_beginMoving) := goodIn_app (goodIn_of _ (by decide +kernel)) ggX4_beginReading_X4_beginMoving
set_option maxRecDepth 20000 in
theorem ggX4_beginMoving_X4_sendVotes : GoodIn wsX4_beginMoving wsX4_sendVotes := goodIn_r _ [7, 8, 9, 10, 11, 12, 13, 14, 6, 15, 16, 17, 18, 19, 20, 21, 22, 23, 24, 25, 26, 36, 37, 38, 39, 40, 41, 42, 43, 44, 45, 46, 47, 48, 49, 50, 51, 52, 53, 54, 55, 56, 57, 58, 59, 60, 61, 62, 63, 64, 65, 66] (by decide +kernel) (by decide +kernel)
set_option maxRecDepth 20000 in
theorem gX4_beginMoving_X4_sendVotes : GoodIn wsX4_beginMoving (wsV RX4 135 RX4 yX4_sendVotes wsX4_sendVotes) := goodIn_app (goodIn_of _ (by decide +kernel)) ggX4_beginMoving_X4_sendVotes
set_option maxRecDepth 20000 in
theorem ggX4_beginMoving_X4_isMoved : GoodIn wsX4_beginMoving wsX4_isMoved := goodIn_r _ [30, 2, 31, 36, 37, 38, 39, 40, 41, 42, 43, 44, 45, 46, 47, 48, 49, 50, 51, 52, 53, 54, 55, 56, 57, 58, 59, 60, 61, 62, 63, 64, 65, 66] (by decide +kernel) (by decide +kernel)
set_option maxRecDepth 20000 in
theorem gX4_beginMoving_X4_isMoved : GoodIn wsX4_beginMoving (wsV RX4 139 RX4 yX4_isMoved wsX4_isMoved) := goodIn_app (goodIn_of _ (by decide +kernel)) ggX4_beginMoving_X4_isMoved
set_option maxRecDepth 20000 in
theorem ggX4_beginMoving_X4_beginAsking : GoodIn wsX4_beginMoving wsX4_beginAsking := goodIn_r _ [35, 1, 12, 13, 14, 6, 15, 16, 17, 18, 19, 20, 21, 22, 23, 24, 25, 26, 36, 37, 38, 39, 40, 41, 42, 43, 44, 45, 46, 47, 48, 49, 50, 51, 52, 53, 54, 55, 56, 57, 58, 59, 60, 61, 62, 63, 64, 65, 66] (by decide +kernel) (by decide +kernel)
set_option maxRecDepth 20000 in
theorem gX4_beginMoving_X4_beginAsking : GoodIn wsX4_beginMoving (wsV RX4 142 RX4 yX4_beginAsking wsX4_beginAsking) := goodIn_app (goodIn_of _ (by decide +kernel)) ggX4_beginMoving_X4_beginAsking
set_option maxRecDepth 20000 in
theorem ggX4_beginAsking_X4_put : GoodIn wsX4_beginAsking wsX4_put := goodIn_r _ [6, 7, 8, 9, 10, 11, 12, 13, 14, 15, 16, 17, 18, 19, 20, 21, 22, 23, 24, 25, 26, 27, 28, 29, 30, 31, 32, 33, 34, 35, 36, 37, 38, 39, 40, 41, 42, 43, 44, 45, 46, 47, 48] (by decide +kernel) (by decide +kernel)
set_option maxRecDepth 20000 in
theorem gX4_beginAsking_X4_put : GoodIn wsX4_beginAsking (wsV RX4 114 RX4 yX4_put wsX4_put) := goodIn_app (goodIn_of _ (by decide +kernel)) ggX4_beginAsking_X4_put
set_option maxRecDepth 20000 in
theorem ggX4_propose_X4_isBallot : GoodIn wsX4_propose wsX4_isBallot := goodIn_r _ [9, 10, 36, 37, 38, 39, 40, 41, 42, 43, 44, 45, 46, 47, 48, 49, 50, 51, 52, 53, 54, 55, 56, 57, 58, 59, 60, 61, 62, 63, 64, 65, 66] (by decide +kernel) (by decide +kernel)
set_option maxRecDepth 20000 in
theorem gX4_propose_X4_isBallot : GoodIn wsX4_propose (wsV RX4 145 RX4 yX4_isBallot wsX4_isBallot) := goodIn_app (goodIn_of _ (by decide +kernel)) ggX4_propose_X4_isBallot
set_option maxRecDepth 20000 in
theorem ggX4_propose_X4_isPlace : GoodIn wsX4_propose wsX4_isPlace := goodIn_r _ [13] (by decide +kernel) (by decide +kernel)
set_option maxRecDepth 20000 in
theorem gX4_propose_X4_isPlace : GoodIn wsX4_propose (va_wsS RX4 148 yX4_isPlace wsX4_isPlace) := goodIn_app (goodIn_of _ (by decide +kernel)) ggX4_propose_X4_isPlace
set_option maxRecDepth 20000 in
theorem ggX4_propose_X4_sendVotes : GoodIn wsX4_propose wsX4_sendVotes := goodIn_r _ [17, 18, 19, 20, 4, 21, 22, 23, 8, 24, 25, 26, 27, 28, 29, 30, 31, 32, 33, 34, 35, 36, 37, 38, 39, 40, 41, 42, 43, 44, 45, 46, 47, 48, 49, 50, 51, 52, 53, 54, 55, 56, 57, 58, 59, 60, 61, 62, 63, 64, 65, 66] (by decide +kernel) (by decide +kernel)
set_option maxRecDepth 20000 in
theorem gX4_propose_X4_sendVotes : GoodIn wsX4_propose (wsV RX4 135 RX4 yX4_sendVotes wsX4_sendVotes) := goodIn_app (goodIn_of _ (by decide +kernel)) ggX4_propose_X4_sendVotes
set_option maxRecDepth 20000 in
theorem ggX4_again_X4_isBallot : GoodIn wsX4_again wsX4_isBallot := goodIn_r _ [9, 10, 48, 49, 50, 51, 52, 53, 54, 55, 56, 57, 58, 59, 60, 61, 62, 63, 64, 65, 66, 67, 68, 69, 70, 71, 72, 73, 74, 75, 76, 77, 78] (by decide +kernel) (by decide +kernel)
set_option maxRecDepth 20000 in
theorem gX4_again_X4_isBallot : GoodIn wsX4_again (wsV RX4 145 RX4 yX4_isBallot wsX4_isBallot) := goodIn_app (goodIn_of _ (by decide +kernel)) ggX4_again_X4_isBallot
set_option maxRecDepth 20000 in
theorem ggX4_again_X4_put : GoodIn wsX4_again wsX4_put := goodIn_r _ [14, 15, 16, 17, 18, 19, 20, 21, 22, 23, 24, 25, 48, 49, 50, 51, 52, 53, 54, 55, 56, 57, 58, 59, 60, 61, 62, 63, 64, 65, 66, 67, 68, 69, 70, 71, 72, 73, 74, 75, 76, 77, 78] (by decide +kernel) (by decide +kernel)
set_option maxRecDepth 20000 in
theorem gX4_again_X4_put : GoodIn wsX4_again (wsV RX4 114 RX4 yX4_put wsX4_put) := goodIn_app (goodIn_of _ (by decide +kernel)) ggX4_again_X4_put
set_option maxRecDepth 20000 in
theorem ggX4_again_X4_sendReads : GoodIn wsX4_again wsX4_sendReads := goodIn_r _ [29, 30, 31, 32, 33, 34, 8, 35, 36, 37, 38, 39, 40, 41, 11, 12, 13, 14, 15, 16, 17, 18, 19, 20, 21, 22, 23, 24, 25, 48, 49, 50, 51, 52, 53, 54, 55, 56, 57, 58, 59, 60, 61, 62, 63, 64, 65, 66, 67, 68, 69, 70, 71, 72, 73, 74, 75, 76, 77, 78] (by decide +kernel) (by decide +kernel)
set_option maxRecDepth 20000 in
theorem gX4_again_X4_sendReads : GoodIn wsX4_again (wsV RX4 124 RX4 yX4_sendReads wsX4_sendReads) := goodIn_app (goodIn_of _ (by decide +kernel)) ggX4_again_X4_sendReads
set_option maxRecDepth 20000 in
theorem ggX4_again_X4_sendVotes : GoodIn wsX4_again wsX4_sendVotes := goodIn_r _ [45, 30, 36, 46, 47, 11, 12, 13, 8, 14, 15, 16, 17, 18, 19, 20, 21, 22, 23, 24, 25, 48, 49, 50, 51, 52, 53, 54, 55, 56, 57, 58, 59, 60, 61, 62, 63, 64, 65, 66, 67, 68, 69, 70, 71, 72, 73, 74, 75, 76, 77, 78] (by decide +kernel) (by decide +kernel)
set_option maxRecDepth 20000 in
theorem gX4_again_X4_sendVotes : GoodIn wsX4_again (wsV RX4 135 RX4 yX4_sendVotes wsX4_sendVotes) := goodIn_app (goodIn_of _ (by decide +kernel)) ggX4_again_X4_sendVotes
set_option maxRecDepth 20000 in
theorem ggX4_comesRead_X4_put : GoodIn wsX4_comesRead wsX4_put := goodIn_r _ [6, 7, 8, 9, 10, 11, 12, 13, 14, 15, 16, 17, 18, 19, 20, 21, 22, 23, 24, 25, 26, 27, 28, 29, 30, 31, 32, 33, 34, 35, 36, 37, 38, 39, 40, 41, 42, 43, 44, 45, 46, 47, 48] (by decide +kernel) (by decide +kernel)
set_option maxRecDepth 20000 in
theorem gX4_comesRead_X4_put : GoodIn wsX4_comesRead (wsV RX4 114 RX4 yX4_put wsX4_put) := goodIn_app (goodIn_of _ (by decide +kernel)) ggX4_comesRead_X4_put
set_option maxRecDepth 20000 in
theorem ggX4_comesVote_X4_put : GoodIn wsX4_comesVote wsX4_put := goodIn_r _ [9, 10, 11, 12, 13, 14, 15, 16, 17, 2, 18, 3, 19, 20, 21, 22, 23, 24, 25, 26, 27, 28, 29, 30, 31, 32, 33, 34, 35, 36, 37, 38, 39, 40, 41, 42, 43, 44, 45, 46, 47, 48, 49] (by decide +kernel) (by decide +kernel)
set_option maxRecDepth 20000 in
theorem gX4_comesVote_X4_put : GoodIn wsX4_comesVote (wsV RX4 114 RX4 yX4_put wsX4_put) := goodIn_app (goodIn_of _ (by decide +kernel)) ggX4_comesVote_X4_put
set_option maxRecDepth 20000 in
theorem ggX4_comesReadAnswer_X4_isRead : GoodIn wsX4_comesReadAnswer wsX4_isRead := goodIn_r _ [12, 2, 13, 14, 15, 16, 17, 11, 18, 19, 20, 21, 22, 57, 58, 59, 60, 61, 62, 63, 64, 65, 66, 67, 68, 69, 70, 71, 72, 73, 74, 75, 76, 77, 78, 79, 80, 81, 82, 83, 84, 85, 86, 87] (by decide +kernel) (by decide +kernel)
set_option maxRecDepth 20000 in
theorem gX4_comesReadAnswer_X4_isRead : GoodIn wsX4_comesReadAnswer (wsV RX4 127 RX4 yX4_isRead wsX4_isRead) := goodIn_app (goodIn_of _ (by decide +kernel)) ggX4_comesReadAnswer_X4_isRead
set_option maxRecDepth 20000 in
theorem ggX4_comesReadAnswer_X4_beginMoving : GoodIn wsX4_comesReadAnswer wsX4_beginMoving := goodIn_r _ [26, 1, 7, 27, 28, 29, 11, 30, 31, 13, 32, 5, 33, 34, 35, 36, 37, 38, 39, 40, 41, 42, 43, 44, 45, 46, 47, 48, 49, 50, 51, 52, 53, 54, 55, 56, 57, 58, 59, 60, 61, 62, 63, 64, 65, 66, 67, 68, 69, 70, 71, 72, 73, 74, 75, 76, 77, 78, 79, 80, 81, 82, 83, 84, 85, 86, 87] (by decide +kernel) (by decide +kernel)
set_option maxRecDepth 20000 in
theorem gX4_comesReadAnswer_X4_beginMoving : GoodIn wsX4_comesReadAnswer (wsV RX4 131 RX4 yX4_beginMoving wsX4_beginMoving) := goodIn_app (goodIn_of _ (by decide +kernel)) ggX4_comesReadAnswer_X4_beginMoving
set_option maxRecDepth 20000 in
theorem ggX4_comesVoteAnswer_X4_many : GoodIn wsX4_comesVoteAnswer wsX4_many := goodIn_r _ [8] (by decide +kernel) (by decide +kernel)
set_option maxRecDepth 20000 in
theorem gX4_comesVoteAnswer_X4_many : GoodIn wsX4_comesVoteAnswer (va_wsS RX4 107 yX4_many wsX4_many) := goodIn_app (goodIn_of _ (by decide +kernel)) ggX4_comesVoteAnswer_X4_many
set_option maxRecDepth 20000 in
theorem ggX4_comesVoteAnswer_X4_isMoved : GoodIn wsX4_comesVoteAnswer wsX4_isMoved := goodIn_r _ [12, 13, 4, 33, 34, 35, 36, 37, 38, 39, 40, 41, 42, 43, 44, 45, 46, 47, 48, 49, 50, 51, 52, 53, 54, 55, 56, 57, 58, 59, 60, 61, 62, 63] (by decide +kernel) (by decide +kernel)
set_option maxRecDepth 20000 in
theorem gX4_comesVoteAnswer_X4_isMoved : GoodIn wsX4_comesVoteAnswer (wsV RX4 139 RX4 yX4_isMoved wsX4_isMoved) := goodIn_app (goodIn_of _ (by decide +kernel)) ggX4_comesVoteAnswer_X4_isMoved
set_option maxRecDepth 20000 in
theorem ggX4_comesVoteAnswer_X4_beginAsking : GoodIn wsX4_comesVoteAnswer wsX4_beginAsking := goodIn_r _ [17, 1, 18, 19, 20, 7, 21, 22, 23, 24, 25, 26, 27, 28, 29, 30, 31, 32, 33, 34, 35, 36, 37, 38, 39, 40, 41, 42, 43, 44, 45, 46, 47, 48, 49, 50, 51, 52, 53, 54, 55, 56, 57, 58, 59, 60, 61, 62, 63] (by decide +kernel) (by decide +kernel)
set_option maxRecDepth 20000 in
theorem gX4_comesVoteAnswer_X4_beginAsking : GoodIn wsX4_comesVoteAnswer (wsV RX4 142 RX4 yX4_beginAsking wsX4_beginAsking) := goodIn_app (goodIn_of _ (by decide +kernel)) ggX4_comesVoteAnswer_X4_beginAsking
set_option maxRecDepth 20000 in
theorem ggX4_deliver_X4_canBe : GoodIn wsX4_deliver wsX4_canBe := goodIn_r _ [18, 2, 19, 4, 102, 103, 104, 105, 106, 107, 108, 109, 110, 111, 112, 113, 114, 115, 116, 117, 118, 119, 120, 121, 122, 123, 124, 125, 126, 127, 128, 129, 130, 131, 132] (by decide +kernel) (by decide +kernel)
set_option maxRecDepth 20000 in
theorem gX4_deliver_X4_canBe : GoodIn wsX4_deliver (wsV RX4 151 RX4 yX4_canBe wsX4_canBe) := goodIn_app (goodIn_of _ (by decide +kernel)) ggX4_deliver_X4_canBe
set_option maxRecDepth 20000 in
theorem ggX4_deliver_X4_take : GoodIn wsX4_deliver wsX4_take := goodIn_r _ [23, 1, 24, 25, 26, 17, 27, 2, 3, 4, 5, 6, 8, 10, 102, 103, 104, 105, 106, 107, 108, 109, 110, 111, 112, 113, 114, 115, 116, 117, 118, 119, 120, 121, 122, 123, 124, 125, 126, 127, 128, 129, 130, 131, 132] (by decide +kernel) (by decide +kernel)
set_option maxRecDepth 20000 in
theorem gX4_deliver_X4_take : GoodIn wsX4_deliver (wsV RX4 154 RX4 yX4_take wsX4_take) := goodIn_app (goodIn_of _ (by decide +kernel)) ggX4_deliver_X4_take
set_option maxRecDepth 20000 in
theorem ggX4_deliver_X4_beginReading : GoodIn wsX4_deliver wsX4_beginReading := goodIn_r _ [31, 11, 32, 33, 34, 17, 35, 36, 37, 38, 39, 40, 41, 42, 43, 44, 45, 46, 13, 47, 48, 49, 50, 1, 51, 2, 3, 4, 5, 6, 8, 52, 10, 53, 54, 55, 56, 57, 58, 59, 60, 61, 62, 63, 64, 65, 66, 67, 68, 69, 70, 71, 72, 73, 74, 75, 76, 77, 78, 79, 80, 81, 102, 103, 104, 105, 106, 107, 108, 109, 110, 111, 112, 113, 114, 115, 116, 117, 118, 119, 120, 121, 122, 123, 124, 125, 126, 127, 128, 129, 130, 131, 132] (by decide +kernel) (by decide +kernel)
set_option maxRecDepth 20000 in
theorem gX4_deliver_X4_beginReading : GoodIn wsX4_deliver (wsV RX4 157 RX4 yX4_beginReading wsX4_beginReading) := goodIn_app (goodIn_of _ (by decide +kernel)) ggX4_deliver_X4_beginReading
set_option maxRecDepth 20000 in
theorem ggX4_deliver_X4_comesRead : GoodIn wsX4_deliver wsX4_comesRead := goodIn_r _ [85, 86, 47, 48, 49, 17, 50, 1, 51, 2, 3, 4, 5, 6, 8, 52, 10, 53, 102, 103, 104, 105, 106, 107, 108, 109, 110, 111, 112, 113, 114, 115, 116, 117, 118, 119, 120, 121, 122, 123, 124, 125, 126, 127, 128, 129, 130, 131, 132] (by decide +kernel) (by decide +kernel)
set_option maxRecDepth 20000 in
theorem gX4_deliver_X4_comesRead : GoodIn wsX4_deliver (wsV RX4 160 RX4 yX4_comesRead wsX4_comesRead) := goodIn_app (goodIn_of _ (by decide +kernel)) ggX4_deliver_X4_comesRead
set_option maxRecDepth 20000 in
theorem ggX4_deliver_X4_comesReadAnswer : GoodIn wsX4_deliver wsX4_comesReadAnswer := goodIn_r _ [90, 11, 37, 7, 91, 72, 9, 66, 54, 55, 56, 17, 57, 42, 58, 43, 44, 45, 46, 13, 59, 60, 61, 62, 63, 64, 65, 67, 68, 69, 70, 36, 71, 47, 48, 49, 50, 1, 51, 2, 3, 4, 5, 6, 8, 52, 10, 53, 73, 74, 75, 76, 77, 78, 79, 80, 81, 102, 103, 104, 105, 106, 107, 108, 109, 110, 111, 112, 113, 114, 115, 116, 117, 118, 119, 120, 121, 122, 123, 124, 125, 126, 127, 128, 129, 130, 131, 132] (by decide +kernel) (by decide +kernel)
set_option maxRecDepth 20000 in
theorem gX4_deliver_X4_comesReadAnswer : GoodIn wsX4_deliver (wsV RX4 163 RX4 yX4_comesReadAnswer wsX4_comesReadAnswer) := goodIn_app (goodIn_of _ (by decide +kernel)) ggX4_deliver_X4_comesReadAnswer
set_option maxRecDepth 20000 in
theorem ggX4_deliver_X4_comesVote : GoodIn wsX4_deliver wsX4_comesVote := goodIn_r _ [95, 86, 52, 53, 96, 47, 48, 49, 17, 50, 1, 51, 2, 3, 4, 5, 6, 8, 10, 102, 103, 104, 105, 106, 107, 108, 109, 110, 111, 112, 113, 114, 115, 116, 117, 118, 119, 120, 121, 122, 123, 124, 125, 126, 127, 128, 129, 130, 131, 132] (by decide +kernel) (by decide +kernel)
set_option maxRecDepth 20000 in
theorem gX4_deliver_X4_comesVote : GoodIn wsX4_deliver (wsV RX4 166 RX4 yX4_comesVote wsX4_comesVote) := goodIn_app (goodIn_of _ (by decide +kernel)) ggX4_deliver_X4_comesVote
set_option maxRecDepth 20000 in
theorem ggX4_deliver_X4_comesVoteAnswer : GoodIn wsX4_deliver wsX4_comesVoteAnswer := goodIn_r _ [100, 11, 71, 101, 77, 59, 60, 17, 61, 73, 74, 75, 76, 66, 78, 79, 80, 81, 47, 48, 49, 50, 1, 51, 2, 3, 4, 5, 6, 8, 52, 10, 53, 102, 103, 104, 105, 106, 107, 108, 109, 110, 111, 112, 113, 114, 115, 116, 117, 118, 119, 120, 121, 122, 123, 124, 125, 126, 127, 128, 129, 130, 131, 132] (by decide +kernel) (by decide +kernel)
set_option maxRecDepth 20000 in
theorem gX4_deliver_X4_comesVoteAnswer : GoodIn wsX4_deliver (wsV RX4 170 RX4 yX4_comesVoteAnswer wsX4_comesVoteAnswer) := goodIn_app (goodIn_of _ (by decide +kernel)) ggX4_deliver_X4_comesVoteAnswer
set_option maxRecDepth 20000 in
theorem ggX4_deliver_X4_put : GoodIn wsX4_deliver wsX4_put := goodIn_r _ [50, 1, 51, 2, 3, 4, 5, 6, 8, 52, 10, 53, 102, 103, 104, 105, 106, 107, 108, 109, 110, 111, 112, 113, 114, 115, 116, 117, 118, 119, 120, 121, 122, 123, 124, 125, 126, 127, 128, 129, 130, 131, 132] (by decide +kernel) (by decide +kernel)
set_option maxRecDepth 20000 in
theorem gX4_deliver_X4_put : GoodIn wsX4_deliver (wsV RX4 114 RX4 yX4_put wsX4_put) := goodIn_app (goodIn_of _ (by decide +kernel)) ggX4_deliver_X4_put
set_option maxRecDepth 20000 in
theorem ggX4_settle_X4_canBe : GoodIn wsX4_settle wsX4_canBe := goodIn_r _ [6, 7, 8, 9, 106, 107, 108, 109, 110, 111, 112, 113, 114, 115, 116, 117, 118, 119, 120, 121, 122, 123, 124, 125, 126, 127, 128, 129, 130, 131, 132, 133, 134, 135, 136] (by decide +kernel) (by decide +kernel)
set_option maxRecDepth 20000 in
theorem gX4_settle_X4_canBe : GoodIn wsX4_settle (wsV RX4 151 RX4 yX4_canBe wsX4_canBe) := goodIn_app (goodIn_of _ (by decide +kernel)) ggX4_settle_X4_canBe
set_option maxRecDepth 20000 in
theorem ggX4_settle_X4_deliver : GoodIn wsX4_settle wsX4_deliver := goodIn_r _ [13, 1, 7, 14, 9, 15, 16, 17, 18, 19, 20, 21, 22, 23, 2, 3, 4, 5, 6, 8, 24, 25, 26, 27, 28, 29, 30, 31, 32, 33, 34, 35, 36, 37, 38, 39, 40, 41, 42, 43, 44, 45, 46, 47, 48, 49, 50, 51, 52, 53, 54, 55, 56, 57, 58, 59, 60, 61, 62, 63, 64, 65, 66, 67, 68, 69, 70, 71, 72, 73, 74, 75, 76, 77, 78, 79, 80, 81, 82, 83, 84, 85, 86, 87, 88, 89, 90, 91, 92, 93, 94, 95, 96, 97, 98, 99, 100, 101, 102, 103, 104, 105, 106, 107, 108, 109, 110, 111, 112, 113, 114, 115, 116, 117, 118, 119, 120, 121, 122, 123, 124, 125, 126, 127, 128, 129, 130, 131, 132, 133, 134, 135, 136] (by decide +kernel) (by decide +kernel)
set_option maxRecDepth 20000 in
theorem gX4_settle_X4_deliver : GoodIn wsX4_settle (wsV RX4 174 RX4 yX4_deliver wsX4_deliver) := goodIn_app (goodIn_of _ (by decide +kernel)) ggX4_settle_X4_deliver
set_option maxRecDepth 20000 in
theorem ggX4_lose_X4_take : GoodIn wsX4_lose wsX4_take := goodIn_r _ [6, 1, 7, 8, 9, 5, 10, 11, 12, 13, 14, 15, 16, 17, 18, 19, 20, 21, 22, 23, 24, 25, 26, 27, 28, 29, 30, 31, 32, 33, 34, 35, 36, 37, 38, 39, 40, 41, 42, 43, 44, 45, 46, 47, 48] (by decide +kernel) (by decide +kernel)
set_option maxRecDepth 20000 in
theorem gX4_lose_X4_take : GoodIn wsX4_lose (wsV RX4 154 RX4 yX4_take wsX4_take) := goodIn_app (goodIn_of _ (by decide +kernel)) ggX4_lose_X4_take
set_option maxRecDepth 20000 in
theorem ggX4_twice_X4_copy : GoodIn wsX4_twice wsX4_copy := goodIn_r _ [6, 7, 8, 9, 10, 11, 12, 13, 14, 15, 16, 17, 18, 19, 20, 21, 22, 23, 24, 25, 26, 27, 28, 29, 30, 31, 32, 33, 34, 35, 36, 37, 38, 39, 40, 41, 42, 43, 44] (by decide +kernel) (by decide +kernel)
set_option maxRecDepth 20000 in
theorem gX4_twice_X4_copy : GoodIn wsX4_twice (wsV RX4 103 RX4 yX4_copy wsX4_copy) := goodIn_app (goodIn_of _ (by decide +kernel)) ggX4_twice_X4_copy
set_option maxRecDepth 20000 in
theorem ggX4_silent_X4_isVoter : GoodIn wsX4_silent wsX4_isVoter := goodIn_r _ [6, 7, 8, 9, 10, 11, 12, 13, 14, 15, 16, 17, 18, 19, 20, 21, 22, 23, 24, 25, 26, 27, 28, 29, 30, 31, 32, 33, 34, 35, 36, 37, 38] (by decide +kernel) (by decide +kernel)
set_option maxRecDepth 20000 in
theorem gX4_silent_X4_isVoter : GoodIn wsX4_silent (wsV RX4 177 RX4 yX4_isVoter wsX4_isVoter) := goodIn_app (goodIn_of _ (by decide +kernel)) ggX4_silent_X4_isVoter
set_option maxRecDepth 20000 in
theorem ggX4_promise_X4_isVoter : GoodIn wsX4_promise wsX4_isVoter := goodIn_r _ [6, 7, 8, 9, 10, 11, 12, 13, 14, 15, 16, 17, 18, 19, 20, 21, 22, 23, 24, 25, 26, 27, 28, 29, 30, 31, 32, 33, 34, 35, 36, 37, 38] (by decide +kernel) (by decide +kernel)
set_option maxRecDepth 20000 in
theorem gX4_promise_X4_isVoter : GoodIn wsX4_promise (wsV RX4 177 RX4 yX4_isVoter wsX4_isVoter) := goodIn_app (goodIn_of _ (by decide +kernel)) ggX4_promise_X4_isVoter
set_option maxRecDepth 20000 in
theorem ggX4_vote_X4_isVoter : GoodIn wsX4_vote wsX4_isVoter := goodIn_r _ [6, 7, 11, 12, 13, 14, 15, 16, 17, 18, 19, 20, 21, 22, 23, 24, 25, 26, 27, 28, 29, 30, 31, 32, 33, 34, 35, 36, 37, 38, 39, 40, 41] (by decide +kernel) (by decide +kernel)
set_option maxRecDepth 20000 in
theorem gX4_vote_X4_isVoter : GoodIn wsX4_vote (wsV RX4 177 RX4 yX4_isVoter wsX4_isVoter) := goodIn_app (goodIn_of _ (by decide +kernel)) ggX4_vote_X4_isVoter
set_option maxRecDepth 20000 in
theorem ggX4_vote_X4_isPlace : GoodIn wsX4_vote wsX4_isPlace := goodIn_r _ [10] (by decide +kernel) (by decide +kernel)
set_option maxRecDepth 20000 in
theorem gX4_vote_X4_isPlace : GoodIn wsX4_vote (va_wsS RX4 148 yX4_isPlace wsX4_isPlace) := goodIn_app (goodIn_of _ (by decide +kernel)) ggX4_vote_X4_isPlace
set_option maxRecDepth 20000 in
theorem ggX4_value_X4_isVoter : GoodIn wsX4_value wsX4_isVoter := goodIn_r _ [6, 7, 11, 12, 13, 14, 15, 16, 17, 18, 19, 20, 21, 22, 23, 24, 25, 26, 27, 28, 29, 30, 31, 32, 33, 34, 35, 36, 37, 38, 39, 40, 41] (by decide +kernel) (by decide +kernel)
set_option maxRecDepth 20000 in
theorem gX4_value_X4_isVoter : GoodIn wsX4_value (wsV RX4 177 RX4 yX4_isVoter wsX4_isVoter) := goodIn_app (goodIn_of _ (by decide +kernel)) ggX4_value_X4_isVoter
set_option maxRecDepth 20000 in
theorem ggX4_value_X4_isPlace : GoodIn wsX4_value wsX4_isPlace := goodIn_r _ [10] (by decide +kernel) (by decide +kernel)
set_option maxRecDepth 20000 in
theorem gX4_value_X4_isPlace : GoodIn wsX4_value (va_wsS RX4 148 yX4_isPlace wsX4_isPlace) := goodIn_app (goodIn_of _ (by decide +kernel)) ggX4_value_X4_isPlace
set_option maxRecDepth 20000 in
theorem ggX4_of_X4_isBallot : GoodIn wsX4_of wsX4_isBallot := goodIn_r _ [14, 15, 16, 17, 18, 19, 20, 21, 22, 23, 24, 25, 26, 27, 28, 29, 30, 31, 32, 33, 34, 35, 36, 37, 38, 39, 40, 41, 42, 43, 44, 45, 46] (by decide +kernel) (by decide +kernel)
set_option maxRecDepth 20000 in
theorem gX4_of_X4_isBallot : GoodIn wsX4_of (wsV RX4 145 RX4 yX4_isBallot wsX4_isBallot) := goodIn_app (goodIn_of _ (by decide +kernel)) ggX4_of_X4_isBallot
set_option maxRecDepth 20000 in
theorem ggX4_answered_X4_isBallot : GoodIn wsX4_answered wsX4_isBallot := goodIn_r _ [6, 7, 11, 12, 13, 14, 15, 16, 17, 18, 19, 20, 21, 22, 23, 24, 25, 26, 27, 28, 29, 30, 31, 32, 33, 34, 35, 36, 37, 38, 39, 40, 41] (by decide +kernel) (by decide +kernel)
set_option maxRecDepth 20000 in
theorem gX4_answered_X4_isBallot : GoodIn wsX4_answered (wsV RX4 145 RX4 yX4_isBallot wsX4_isBallot) := goodIn_app (goodIn_of _ (by decide +kernel)) ggX4_answered_X4_isBallot
set_option maxRecDepth 20000 in
theorem ggX4_answered_X4_isPlace : GoodIn wsX4_answered wsX4_isPlace := goodIn_r _ [10] (by decide +kernel) (by decide +kernel)
set_option maxRecDepth 20000 in
theorem gX4_answered_X4_isPlace : GoodIn wsX4_answered (va_wsS RX4 148 yX4_isPlace wsX4_isPlace) := goodIn_app (goodIn_of _ (by decide +kernel)) ggX4_answered_X4_isPlace
set_option maxRecDepth 20000 in
theorem ggX4_said_X4_isBallot : GoodIn wsX4_said wsX4_isBallot := goodIn_r _ [6, 7, 11, 12, 13, 14, 15, 16, 17, 18, 19, 20, 21, 22, 23, 24, 25, 26, 27, 28, 29, 30, 31, 32, 33, 34, 35, 36, 37, 38, 39, 40, 41] (by decide +kernel) (by decide +kernel)
set_option maxRecDepth 20000 in
theorem gX4_said_X4_isBallot : GoodIn wsX4_said (wsV RX4 145 RX4 yX4_isBallot wsX4_isBallot) := goodIn_app (goodIn_of _ (by decide +kernel)) ggX4_said_X4_isBallot
set_option maxRecDepth 20000 in
theorem ggX4_said_X4_isPlace : GoodIn wsX4_said wsX4_isPlace := goodIn_r _ [10] (by decide +kernel) (by decide +kernel)
set_option maxRecDepth 20000 in
theorem gX4_said_X4_isPlace : GoodIn wsX4_said (va_wsS RX4 148 yX4_isPlace wsX4_isPlace) := goodIn_app (goodIn_of _ (by decide +kernel)) ggX4_said_X4_isPlace
set_option maxRecDepth 20000 in
theorem ggX4_isChosen_X4_many : GoodIn wsX4_isChosen wsX4_many := goodIn_r _ [7] (by decide +kernel) (by decide +kernel)
set_option maxRecDepth 20000 in
theorem gX4_isChosen_X4_many : GoodIn wsX4_isChosen (va_wsS RX4 107 yX4_many wsX4_many) := goodIn_app (goodIn_of _ (by decide +kernel)) ggX4_isChosen_X4_many
set_option maxRecDepth 20000 in
theorem ggX4_chosen_X4_isPlace : GoodIn wsX4_chosen wsX4_isPlace := goodIn_r _ [5] (by decide +kernel) (by decide +kernel)
set_option maxRecDepth 20000 in
theorem gX4_chosen_X4_isPlace : GoodIn wsX4_chosen (va_wsS RX4 148 yX4_isPlace wsX4_isPlace) := goodIn_app (goodIn_of _ (by decide +kernel)) ggX4_chosen_X4_isPlace
set_option maxRecDepth 20000 in
theorem ggX4_chosen_X4_isChosen : GoodIn wsX4_chosen wsX4_isChosen := goodIn_r _ [9, 10, 11, 12, 13, 14, 4, 15, 16, 17, 18, 19, 20, 21, 22, 23, 24, 25, 26, 27, 28, 29, 30, 31, 32, 33, 34, 35, 36, 37, 38, 39, 40, 41, 42, 43, 44, 45, 46] (by decide +kernel) (by decide +kernel)
set_option maxRecDepth 20000 in
theorem gX4_chosen_X4_isChosen : GoodIn wsX4_chosen (wsV RX4 180 RX4 yX4_isChosen wsX4_isChosen) := goodIn_app (goodIn_of _ (by decide +kernel)) ggX4_chosen_X4_isChosen
set_option maxRecDepth 20000 in
theorem ggX4_chosenValue_X4_chosen : GoodIn wsX4_chosenValue wsX4_chosen := goodIn_r _ [6, 7, 8, 9, 5, 10, 11, 12, 13, 14, 15, 16, 17, 18, 19, 20, 21, 22, 23, 24, 25, 26, 27, 28, 29, 30, 31, 32, 33, 34, 35, 36, 37, 38, 39, 40, 41, 42, 43, 44, 45, 46, 47, 48, 49, 50, 51] (by decide +kernel) (by decide +kernel)
set_option maxRecDepth 20000 in
theorem gX4_chosenValue_X4_chosen : GoodIn wsX4_chosenValue (wsV RX4 184 RX4 yX4_chosen wsX4_chosen) := goodIn_app (goodIn_of _ (by decide +kernel)) ggX4_chosenValue_X4_chosen
set_option maxRecDepth 20000 in
theorem ggX4_isOne_X4_isPlace : GoodIn wsX4_isOne wsX4_isPlace := goodIn_r _ [6] (by decide +kernel) (by decide +kernel)
set_option maxRecDepth 20000 in
theorem gX4_isOne_X4_isPlace : GoodIn wsX4_isOne (va_wsS RX4 148 yX4_isPlace wsX4_isPlace) := goodIn_app (goodIn_of _ (by decide +kernel)) ggX4_isOne_X4_isPlace
set_option maxRecDepth 20000 in
theorem ggX4_isOne_X4_isChosen : GoodIn wsX4_isOne wsX4_isChosen := goodIn_r _ [10, 11, 12, 13, 14, 15, 5, 16, 25, 26, 27, 28, 29, 30, 31, 32, 33, 34, 35, 36, 37, 38, 39, 40, 41, 42, 43, 44, 45, 46, 47, 48, 49, 50, 51, 52, 53, 54, 55] (by decide +kernel) (by decide +kernel)
set_option maxRecDepth 20000 in
theorem gX4_isOne_X4_isChosen : GoodIn wsX4_isOne (wsV RX4 180 RX4 yX4_isChosen wsX4_isChosen) := goodIn_app (goodIn_of _ (by decide +kernel)) ggX4_isOne_X4_isChosen
set_option maxRecDepth 20000 in
theorem ggX4_isOne_X4_chosenValue : GoodIn wsX4_isOne wsX4_chosenValue := goodIn_r _ [20, 2, 21, 22, 23, 5, 24, 1, 3, 4, 6, 7, 8, 9, 10, 11, 12, 13, 14, 15, 16, 25, 26, 27, 28, 29, 30, 31, 32, 33, 34, 35, 36, 37, 38, 39, 40, 41, 42, 43, 44, 45, 46, 47, 48, 49, 50, 51, 52, 53, 54, 55] (by decide +kernel) (by decide +kernel)
set_option maxRecDepth 20000 in
theorem gX4_isOne_X4_chosenValue : GoodIn wsX4_isOne (wsV RX4 187 RX4 yX4_chosenValue wsX4_chosenValue) := goodIn_app (goodIn_of _ (by decide +kernel)) ggX4_isOne_X4_chosenValue

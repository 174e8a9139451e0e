def kdL : List (List Nat) := [[2, 2, 2, 2, 2, 2, 2, 2, 2, 2, 2, 0], [0, 0, 0, 0, 2, 2, 2, 2, 2, 2, 2, 2, 2, 2, 2, 2, 2, 2, 2], [2, 2, 0, 0, 0], [2, 2, 2, 2, 2, 0, 0, 0, 0], [0, 0], [2, 0, 0, 0, 3], [0, 0, 2, 2, 2], [2, 0, 0, 0, 0, 0, 0, 0, 1, 0], [2, 2, 0, 0], [0, 0, 0, 2, 2, 2, 2, 2, 2, 2, 2, 2, 3], [0, 0, 0, 0, 0, 0, 0, 0, 0, 0, 0, 0, 0, 0, 0, 0, 0, 2, 2, 2, 2, 2, 2, 2, 2, 2, 2, 2, 2, 2, 2, 2, 2, 2, 2, 2, 2, 2, 2, 2, 2, 2, 2, 2, 2], [0, 0, 0, 2, 2, 2, 0, 0, 0, 0, 0, 0, 0, 0, 0, 0, 2, 1, 2, 2, 2, 0, 0, 2, 2, 2, 2, 2, 2, 2, 2, 2, 0, 0, 0]]
def sS : List (String × Nat × String × List Int32) := [("PrayerWay$Reader", 86, "land row thing luck god holds sends bars prayer clash village spell saw any", [108, 97, 110, 100, 32, 114, 111, 119, 32, 116, 104, 105, 110, 103, 32, 108, 117, 99, 107, 32, 103, 111, 100, 32, 104, 111, 108, 100, 115, 32, 115, 101, 110, 100, 115, 32, 98, 97, 114, 115, 32, 112, 114, 97, 121, 101, 114, 32, 99, 108, 97, 115, 104, 32, 118, 105, 108, 108, 97, 103, 101, 32, 115, 112, 101, 108, 108, 32, 115, 97, 119, 32, 97, 110, 121]),
  ("PrayerWay$Reader", 140, "wide", [119, 105, 100, 101]),
  ("PrayerWay$Reader", 155, "high", [104, 105, 103, 104]),
  ("PrayerWay$Reader", 156, "law", [108, 97, 119]),
  ("PrayerWay$Reader", 158, "first gift need", [102, 105, 114, 115, 116, 32, 103, 105, 102, 116, 32, 110, 101, 101, 100]),
  ("PrayerWay$Reader", 178, "plain proud jealous asleep", [112, 108, 97, 105, 110, 32, 112, 114, 111, 117, 100, 32, 106, 101, 97, 108, 111, 117, 115, 32, 97, 115, 108, 101, 101, 112]),
  ("PrayerWay$Reader", 183, "price", [112, 114, 105, 99, 101]),
  ("PrayerWay$Reader", 193, "serves", [115, 101, 114, 118, 101, 115]),
  ("PrayerWay$Reader", 198, "from", [102, 114, 111, 109]),
  ("PrayerWay$Reader", 203, "to", [116, 111]),
  ("PrayerWay$Reader", 211, "any", [97, 110, 121]),
  ("PrayerWay$Reader", 285, "a b c d e any", [97, 32, 98, 32, 99, 32, 100, 32, 101, 32, 97, 110, 121]),
  ("PrayerWay$Reader", 283, "at", [97, 116]),
  ("PrayerWay$Reader", 250, "hour", [104, 111, 117, 114]),
  ("PrayerWay$Reader", 252, "starts", [115, 116, 97, 114, 116, 115]),
  ("PrayerWay$Reader", 254, "gift", [103, 105, 102, 116]),
  ("PrayerWay$Reader", 256, "need", [110, 101, 101, 100]),
  ("PrayerWay$Reader", 267, "saint", [115, 97, 105, 110, 116]),
  ("PrayerWay$Reader", 272, "adds takes times shares", [97, 100, 100, 115, 32, 116, 97, 107, 101, 115, 32, 116, 105, 109, 101, 115, 32, 115, 104, 97, 114, 101, 115]),
  ("PrayerWay$Reader", 281, "no yes", [110, 111, 32, 121, 101, 115]),
  ("PrayerWay", 362, "no such prayer is granted", [110, 111, 32, 115, 117, 99, 104, 32, 112, 114, 97, 121, 101, 114, 32, 105, 115, 32, 103, 114, 97, 110, 116, 101, 100]),
  ("PrayerWayModel", 150, "land", [108, 97, 110, 100]),
  ("PrayerWayModel", 273, "wide", [119, 105, 100, 101]),
  ("PrayerWayModel", 278, "high", [104, 105, 103, 104]),
  ("PrayerWayModel", 279, "law", [108, 97, 119]),
  ("PrayerWayModel", 281, "first", [102, 105, 114, 115, 116]),
  ("PrayerWayModel", 283, "gift", [103, 105, 102, 116]),
  ("PrayerWayModel", 285, "need", [110, 101, 101, 100]),
  ("PrayerWayModel", 152, "row", [114, 111, 119]),
  ("PrayerWayModel", 154, "thing", [116, 104, 105, 110, 103]),
  ("PrayerWayModel", 156, "luck", [108, 117, 99, 107]),
  ("PrayerWayModel", 158, "god", [103, 111, 100]),
  ("PrayerWayModel", 160, "holds", [104, 111, 108, 100, 115]),
  ("PrayerWayModel", 162, "sends", [115, 101, 110, 100, 115]),
  ("PrayerWayModel", 164, "bars", [98, 97, 114, 115]),
  ("PrayerWayModel", 166, "prayer", [112, 114, 97, 121, 101, 114]),
  ("PrayerWayModel", 168, "clash", [99, 108, 97, 115, 104]),
  ("PrayerWayModel", 170, "village", [118, 105, 108, 108, 97, 103, 101]),
  ("PrayerWayModel", 172, "spell", [115, 112, 101, 108, 108]),
  ("PrayerWayModel", 174, "saw", [115, 97, 119]),
  ("PrayerWayModel", 176, "any", [97, 110, 121]),
  ("PrayerWayModel", 308, "plain", [112, 108, 97, 105, 110]),
  ("PrayerWayModel", 310, "proud", [112, 114, 111, 117, 100]),
  ("PrayerWayModel", 312, "jealous", [106, 101, 97, 108, 111, 117, 115]),
  ("PrayerWayModel", 314, "asleep", [97, 115, 108, 101, 101, 112]),
  ("PrayerWayModel", 316, "price", [112, 114, 105, 99, 101]),
  ("PrayerWayModel", 318, "serves", [115, 101, 114, 118, 101, 115]),
  ("PrayerWayModel", 320, "from", [102, 114, 111, 109]),
  ("PrayerWayModel", 322, "to", [116, 111]),
  ("PrayerWayModel", 211, "at", [97, 116]),
  ("PrayerWayModel", 370, "hour", [104, 111, 117, 114]),
  ("PrayerWayModel", 372, "starts", [115, 116, 97, 114, 116, 115]),
  ("PrayerWayModel", 398, "saint", [115, 97, 105, 110, 116]),
  ("PrayerWayModel", 408, "adds", [97, 100, 100, 115]),
  ("PrayerWayModel", 410, "takes", [116, 97, 107, 101, 115]),
  ("PrayerWayModel", 412, "times", [116, 105, 109, 101, 115]),
  ("PrayerWayModel", 414, "shares", [115, 104, 97, 114, 101, 115]),
  ("PrayerWayModel", 424, "yes", [121, 101, 115]),
  ("PrayerWayModel", 426, "no", [110, 111])]
def sBy (i : Nat) : List Int32 := (sS.getD i ("", 0, "", [])).2.2.2
def roomL : List Int32 := [1, 4, 6, 1, 6, 16, 12, 6, 8, 8, 4, 6, 8]
def mch0 : List (String × MethodName × ByteArray × Nat × Option FieldType × Nat × Nat × List (Nat × Nat)) := [
  (RX0, yX0_init, cX0_init, 1, none, 2, 0, [(2, 47), (1, 7), (2, 46)]),
  (RX0, yX0_run, cX0_run, 8, none, 0, 5, [(4, 146), (1, 7), (4, 144), (4, 145)]),
  (RX0, yX0_begin, cX0_begin, 7, none, 0, 4, [(4, 150), (1, 7), (4, 149), (0, 35)]),
  (RX0, yX0_weight, cX0_weight, 3, (some .int), 1, 3, [(4, 158), (1, 7), (4, 157)]),
  (RX0, yX0_come, cX0_come, 4, none, 0, 3, [(4, 162), (1, 7), (4, 161), (0, 36)]),
  (RX0, yX0_standsAt, cX0_standsAt, 4, (some .boolean), 0, 3, [(4, 176), (1, 7), (4, 175), (0, 39)]),
  (RX0, yX0_countQueues, cX0_countQueues, 3, none, 0, 1, [(4, 204), (1, 7), (4, 203), (0, 44)]),
  (RX0, yX0_serve, cX0_serve, 7, none, 0, 4, [(4, 168), (1, 7), (4, 167), (0, 37)]),
  (RX0, yX0_foremost, cX0_foremost, 5, (some .int), 0, 2, [(4, 172), (1, 7), (4, 171), (0, 38)]),
  (RX0, yX0_goesAhead, cX0_goesAhead, 3, (some .boolean), 0, 2, [(4, 180), (1, 7), (4, 179), (0, 40)]),
  (RX0, yX0_judge, cX0_judge, 7, none, 0, 5, [(4, 184), (1, 7), (4, 183), (0, 41)]),
  (RX0, yX0_settle, cX0_settle, 4, none, 0, 3, [(4, 194), (1, 7), (4, 193), (0, 43)]),
  (RX0, yX0_grants, cX0_grants, 7, (some .boolean), 0, 4, [(4, 188), (1, 7), (4, 187), (0, 42)]),
  (RX0, yX0_isLate, cX0_isLate, 2, (some .boolean), 0, 1, [(4, 236), (1, 7), (4, 234), (4, 235)]),
  (RX0, yX0_stepOf, cX0_stepOf, 3, (some .int), 0, 2, [(4, 228), (1, 7), (4, 226), (4, 227)]),
  (RX0, yX0_queueOf, cX0_queueOf, 3, (some .int), 0, 2, [(5, 13), (1, 7), (5, 11), (5, 12)]),
  (RX0, yX0_tally, cX0_tally, 4, (some .int), 0, 1, [(5, 4), (1, 7), (5, 2), (5, 3)]),
  (RX0, yX0_grantedBits, cX0_grantedBits, 3, (some .int), 0, 0, [(5, 54), (1, 7), (5, 52), (5, 53)]),
  (RX0, yX0_grantedAt, cX0_grantedAt, 4, (some .int), 0, 1, [(6, 91), (1, 7), (6, 89), (6, 90)]),
  (RX1, yX1_init, cX1_init, 1, none, 2, 0, [(1, 38), (1, 2), (1, 37)]),
  (RX1, yX1_clear, cX1_clear, 1, none, 0, 0, [(2, 214), (1, 2), (2, 212), (2, 213)]),
  (RX1, yX1_stands, cX1_stands, 1, (some .boolean), 0, 0, [(3, 59), (1, 2), (3, 57), (3, 58)]),
  (RX1, yX1_things, cX1_things, 1, (some .int), 0, 0, [(3, 224), (1, 2), (3, 222), (3, 223)]),
  (RX1, yX1_gods, cX1_gods, 1, (some .int), 0, 0, [(3, 121), (1, 2), (3, 119), (3, 120)]),
  (RX1, yX1_prayers, cX1_prayers, 1, (some .int), 0, 0, [(3, 180), (1, 2), (3, 178), (3, 179)])]
def mch1 : List (String × MethodName × ByteArray × Nat × Option FieldType × Nat × Nat × List (Nat × Nat)) := [
  (RX1, yX1_villages, cX1_villages, 1, (some .int), 0, 0, [(3, 205), (1, 2), (3, 203), (3, 204)]),
  (RX1, yX1_groundOf, cX1_groundOf, 2, (some .int), 0, 1, [(4, 24), (1, 2), (4, 22), (4, 23)]),
  (RX1, yX1_ofPrayer, cX1_ofPrayer, 3, (some .int), 0, 2, [(4, 155), (1, 2), (4, 153), (4, 154)]),
  (RX1, yX1_grounds, cX1_grounds, 3, (some .int), 0, 0, [(4, 71), (1, 2), (4, 69), (4, 70)]),
  (RX1, yX1_hoursOf, cX1_hoursOf, 4, (some .int), 0, 3, [(4, 76), (1, 2), (4, 74), (4, 75)]),
  (RX1, yX1_addHours, cX1_addHours, 5, none, 0, 4, [(3, 148), (1, 2), (3, 146), (3, 147)]),
  (RX1, yX1_holds, cX1_holds, 5, (some .boolean), 0, 4, [(4, 47), (1, 2), (4, 45), (4, 46)]),
  (RX1, yX1_holders, cX1_holders, 6, (some .int), 0, 3, [(4, 58), (1, 2), (4, 56), (4, 57)]),
  (RX1, yX1_isBarred, cX1_isBarred, 3, (some .boolean), 0, 2, [(3, 172), (1, 2), (3, 170), (3, 171)]),
  (RX1, yX1_isAsleep, cX1_isAsleep, 3, (some .boolean), 0, 2, [(4, 125), (1, 2), (4, 123), (4, 124)]),
  (RX1, yX1_receives, cX1_receives, 4, (some .boolean), 0, 3, [(4, 121), (1, 2), (4, 119), (4, 120)]),
  (RX1, yX1_onward, cX1_onward, 5, (some .int), 0, 3, [(4, 198), (1, 2), (4, 196), (4, 197)]),
  (RX2, yX2_all, cX2_all, 1, (some .int), 1, 1, [(4, 90), (1, 20), (4, 89)]),
  (RX2, yX2_held, cX2_held, 7, (some .int), 1, 3, [(4, 67), (1, 20), (4, 66)]),
  (RX2, yX2_heldBy, cX2_heldBy, 7, (some .int), 1, 2, [(4, 97), (1, 20), (4, 96)]),
  (RX2, yX2_firstFree, cX2_firstFree, 5, (some .int), 1, 1, [(4, 105), (1, 20), (4, 104)]),
  (RX2, yX2_isFewer, cX2_isFewer, 2, (some .boolean), 1, 2, [(5, 69), (1, 20), (5, 68)]),
  (RX2, yX2_fewestHolding, cX2_fewestHolding, 4, (some .int), 1, 2, [(5, 79), (1, 20), (5, 78)]),
  (RX2, yX2_holdAll, cX2_holdAll, 6, (some .boolean), 1, 3, [(5, 82), (1, 20), (5, 81)]),
  (RX2, yX2_holdAllHours, cX2_holdAllHours, 9, (some .boolean), 1, 5, [(5, 85), (1, 20), (5, 84)]),
  (RX2, yX2_clash, cX2_clash, 3, (some .boolean), 1, 2, [(5, 58), (1, 20), (5, 57)]),
  (RX2, yX2_mostTogether, cX2_mostTogether, 6, (some .int), 1, 2, [(5, 50), (1, 20), (5, 49)]),
  (RX2, yX2_fewestOffended, cX2_fewestOffended, 5, (some .int), 1, 2, [(5, 65), (1, 20), (5, 64)]),
  (RX2, yX2_notOf, cX2_notOf, 6, (some .int), 1, 4, [(5, 72), (1, 20), (5, 71)]),
  (RX3, yX3_init, cX3_init, 2, none, 2, 0, [(1, 175), (1, 4), (1, 174)])]
def mch2 : List (String × MethodName × ByteArray × Nat × Option FieldType × Nat × Nat × List (Nat × Nat)) := [
  (RX3, yX3_forgetAll, cX3_forgetAll, 1, none, 0, 0, [(3, 239), (1, 4), (3, 237), (3, 238)]),
  (RX3, yX3_keepAct, cX3_keepAct, 2, none, 0, 1, [(5, 224), (1, 4), (5, 222), (5, 223)]),
  (RX3, yX3_takeBack, cX3_takeBack, 2, (some .boolean), 0, 1, [(6, 29), (1, 4), (6, 27), (6, 28)]),
  (RX3, yX3_setMark, cX3_setMark, 2, (some .int), 0, 1, [(6, 37), (1, 4), (6, 35), (6, 36)]),
  (RX3, yX3_goBack, cX3_goBack, 3, (some .boolean), 0, 2, [(6, 45), (1, 4), (6, 43), (6, 44)]),
  (RX4, yX4_init, cX4_init, 1, none, 2, 0, [(1, 202), (1, 5), (1, 201)]),
  (RX4, yX4_swap, cX4_swap, 3, (some (.object "PrayerWay$Land")), 0, 1, [(3, 228), (1, 5), (3, 226), (3, 227)]),
  (RX4, yX4_read, cX4_read, 4, (some .boolean), 0, 1, [(2, 210), (1, 5), (2, 208), (2, 209)]),
  (RX4, yX4_isWhole, cX4_isWhole, 2, (some .boolean), 0, 0, [(3, 220), (1, 5), (3, 219), (0, 29)]),
  (RX4, yX4_opening, cX4_opening, 3, (some .int), 0, 0, [(3, 2), (1, 5), (3, 1), (0, 2)]),
  (RX4, yX4_behindWord, cX4_behindWord, 2, (some .boolean), 0, 1, [(3, 69), (1, 5), (3, 68), (0, 4)]),
  (RX4, yX4_landLine, cX4_landLine, 1, (some .boolean), 0, 0, [(3, 73), (1, 5), (3, 72), (0, 5)]),
  (RX4, yX4_rowLine, cX4_rowLine, 4, (some .boolean), 0, 0, [(3, 93), (1, 5), (3, 92), (0, 9)]),
  (RX4, yX4_luckLine, cX4_luckLine, 1, (some .boolean), 0, 0, [(3, 113), (1, 5), (3, 112), (0, 13)]),
  (RX4, yX4_godLine, cX4_godLine, 2, (some .boolean), 0, 0, [(3, 117), (1, 5), (3, 116), (0, 14)]),
  (RX4, yX4_holdsLine, cX4_holdsLine, 5, (some .boolean), 0, 0, [(3, 130), (1, 5), (3, 129), (0, 15)]),
  (RX4, yX4_hold, cX4_hold, 7, none, 0, 4, [(3, 144), (1, 5), (3, 143), (0, 18)]),
  (RX4, yX4_sendsLine, cX4_sendsLine, 3, (some .boolean), 0, 0, [(3, 152), (1, 5), (3, 151), (0, 19)]),
  (RX4, yX4_barsLine, cX4_barsLine, 2, (some .boolean), 0, 0, [(3, 168), (1, 5), (3, 167), (0, 21)]),
  (RX4, yX4_prayerLine, cX4_prayerLine, 3, (some .boolean), 0, 0, [(3, 176), (1, 5), (3, 175), (0, 22)]),
  (RX4, yX4_clashLine, cX4_clashLine, 2, (some .boolean), 0, 0, [(3, 197), (1, 5), (3, 196), (0, 25)]),
  (RX4, yX4_villageLine, cX4_villageLine, 2, (some .boolean), 0, 0, [(3, 201), (1, 5), (3, 200), (0, 26)]),
  (RX4, yX4_spellLine, cX4_spellLine, 2, (some .boolean), 0, 0, [(3, 210), (1, 5), (3, 209), (0, 27)]),
  (RX4, yX4_sawLine, cX4_sawLine, 2, (some .boolean), 0, 0, [(3, 215), (1, 5), (3, 214), (0, 28)]),
  (RX4, yX4_cell, cX4_cell, 2, (some .boolean), 0, 0, [(3, 184), (1, 5), (3, 183), (0, 23)])]
def mch3 : List (String × MethodName × ByteArray × Nat × Option FieldType × Nat × Nat × List (Nat × Nat)) := [
  (RX4, yX4_ground, cX4_ground, 3, (some .boolean), 0, 1, [(3, 139), (1, 5), (3, 138), (0, 17)]),
  (RX4, yX4_word, cX4_word, 2, (some .boolean), 0, 1, [(3, 78), (1, 5), (3, 77), (0, 6)]),
  (RX4, yX4_pick, cX4_pick, 2, (some .boolean), 0, 1, [(3, 89), (1, 5), (3, 88), (0, 8)]),
  (RX4, yX4_sign, cX4_sign, 2, (some .boolean), 0, 1, [(3, 189), (1, 5), (3, 188), (0, 24)]),
  (RX4, yX4_whole, cX4_whole, 3, (some .boolean), 0, 2, [(3, 82), (1, 5), (3, 81), (0, 7)]),
  (RX4, yX4_isName, cX4_isName, 1, (some .boolean), 0, 0, [(3, 105), (1, 5), (3, 104), (0, 11)]),
  (RX4, yX4_find, cX4_find, 4, (some .int), 0, 1, [(3, 109), (1, 5), (3, 108), (0, 12)]),
  (RX4, yX4_tell, cX4_tell, 2, (some .boolean), 0, 1, [(3, 101), (1, 5), (3, 100), (0, 10)]),
  (RX4, yX4_use, cX4_use, 3, (some .boolean), 0, 1, [(3, 134), (1, 5), (3, 133), (0, 16)]),
  (RX4, yX4_fail, cX4_fail, 2, (some .boolean), 0, 1, [(3, 64), (1, 5), (3, 63), (0, 3)]),
  (RX4, yX4_failBehind, cX4_failBehind, 2, (some .boolean), 0, 1, [(3, 160), (1, 5), (3, 159), (0, 20)]),
  (RX5, yX5_init, cX5_init, 1, none, 2, 0, [(2, 140), (1, 10), (2, 139)]),
  (RX5, yX5_fitting, cX5_fitting, 3, (some .int), 1, 1, [(5, 179), (1, 10), (5, 178)]),
  (RX5, yX5_isFitting, cX5_isFitting, 5, (some .boolean), 1, 2, [(5, 183), (1, 10), (5, 182)]),
  (RX5, yX5_seek, cX5_seek, 9, none, 0, 1, [(5, 197), (1, 10), (5, 195), (5, 196)]),
  (RX6, yX6_init, cX6_init, 1, none, 2, 0, [(2, 115), (1, 9), (2, 114)]),
  (RX6, yX6_forget, cX6_forget, 1, none, 0, 0, [(4, 3), (1, 9), (4, 1), (4, 2)]),
  (RX6, yX6_learn, cX6_learn, 2, none, 0, 1, [(5, 164), (1, 9), (5, 162), (5, 163)]),
  (RX6, yX6_follow, cX6_follow, 6, none, 1, 5, [(5, 167), (1, 9), (5, 166)]),
  (RX6, yX6_note, cX6_note, 3, none, 0, 1, [(5, 171), (1, 9), (5, 170), (0, 51)]),
  (RX6, yX6_inOrder, cX6_inOrder, 3, (some .int), 1, 1, [(5, 150), (1, 9), (5, 149)]),
  (RX6, yX6_cast, cX6_cast, 4, (some .int), 1, 3, [(5, 153), (1, 9), (5, 152)]),
  (RX7, yX7_init, cX7_init, 1, none, 2, 0, [(1, 46), (1, 3), (1, 45)]),
  (RX7, yX7_clear, cX7_clear, 1, none, 0, 0, [(2, 221), (1, 3), (2, 219), (2, 220)]),
  (RX7, yX7_copy, cX7_copy, 2, none, 0, 1, [(3, 232), (1, 3), (3, 230), (3, 231)])]
def mch4 : List (String × MethodName × ByteArray × Nat × Option FieldType × Nat × Nat × List (Nat × Nat)) := [
  (RX7, yX7_isLulled, cX7_isLulled, 2, (some .boolean), 0, 1, [(4, 129), (1, 3), (4, 127), (4, 128)]),
  (RX7, yX7_turn, cX7_turn, 2, none, 0, 1, [(5, 229), (1, 3), (5, 227), (5, 228)]),
  (RX7, yX7_draw, cX7_draw, 1, (some .int), 0, 0, [(6, 1), (1, 3), (5, 239), (6, 0)]),
  (RX7, yX7_sentTo, cX7_sentTo, 3, (some .int), 0, 2, [(3, 156), (1, 3), (3, 154), (3, 155)]),
  (RX7, yX7_sendTo, cX7_sendTo, 4, none, 0, 3, [(3, 164), (1, 3), (3, 162), (3, 163)]),
  (RX8, yX8_init, cX8_init, 1, none, 2, 0, [(1, 208), (1, 6), (1, 207)]),
  (RX8, yX8_append, cX8_append, 3, none, 0, 1, [(2, 198), (1, 6), (2, 196), (2, 197)]),
  (RX8, yX8_begin, cX8_begin, 2, none, 0, 1, [(2, 226), (1, 6), (2, 224), (2, 225)]),
  (RX8, yX8_advance, cX8_advance, 2, none, 0, 0, [(2, 233), (1, 6), (2, 231), (2, 232)]),
  (RX8, yX8_take, cX8_take, 3, none, 0, 2, [(2, 237), (1, 6), (2, 236), (0, 1)]),
  (RX8, yX8_choice, cX8_choice, 7, (some .int), 0, 1, [(3, 7), (1, 6), (3, 5), (3, 6)]),
  (RX8, yX8_letter, cX8_letter, 3, (some .int), 0, 1, [(3, 97), (1, 6), (3, 95), (3, 96)]),
  (RX9, yX9_init, cX9_init, 1, none, 2, 0, [(2, 96), (1, 8), (2, 95)]),
  (RX9, yX9_look, cX9_look, 8, none, 0, 2, [(5, 102), (1, 8), (5, 100), (5, 101)]),
  (RX9, yX9_contentWith, cX9_contentWith, 5, (some .int), 0, 2, [(5, 113), (1, 8), (5, 111), (5, 112)]),
  (RX9, yX9_bestFor, cX9_bestFor, 4, (some .int), 0, 1, [(5, 121), (1, 8), (5, 119), (5, 120)]),
  (RX9, yX9_areAtRest, cX9_areAtRest, 4, (some .boolean), 0, 0, [(5, 130), (1, 8), (5, 128), (5, 129)]),
  (RX9, yX9_countRests, cX9_countRests, 4, (some .int), 0, 0, [(5, 138), (1, 8), (5, 136), (5, 137)]),
  (RX9, yX9_setRow, cX9_setRow, 4, none, 0, 1, [(5, 142), (1, 8), (5, 141), (0, 50)]),
  (RX10, yX10_init, cX10_init, 1, none, 2, 0, [(1, 30), (1, 1), (1, 29)]),
  (RX10, yX10_feed, cX10_feed, 7, (some .int), 0, 5, [(2, 194), (1, 1), (2, 192), (2, 193)]),
  (RX10, yX10_land, cX10_land, 3, (some .int), 0, 1, [(2, 202), (1, 1), (2, 200), (2, 201)]),
  (RX10, yX10_fault, cX10_fault, 1, (some .int), 0, 0, [(4, 12), (1, 1), (4, 10), (4, 11)]),
  (RX10, yX10_where, cX10_where, 1, (some .int), 0, 0, [(4, 16), (1, 1), (4, 14), (4, 15)]),
  (RX10, yX10_soil, cX10_soil, 3, (some .int), 0, 2, [(4, 20), (1, 1), (4, 18), (4, 19)])]
def mch5 : List (String × MethodName × ByteArray × Nat × Option FieldType × Nat × Nat × List (Nat × Nat)) := [
  (RX10, yX10_has, cX10_has, 5, (some .int), 0, 4, [(4, 28), (1, 1), (4, 26), (4, 27)]),
  (RX10, yX10_owners, cX10_owners, 4, (some .int), 0, 3, [(4, 54), (1, 1), (4, 52), (4, 53)]),
  (RX10, yX10_many, cX10_many, 2, (some .int), 0, 1, [(4, 64), (1, 1), (4, 62), (4, 63)]),
  (RX10, yX10_points, cX10_points, 1, (some .int), 0, 0, [(4, 86), (1, 1), (4, 84), (4, 85)]),
  (RX10, yX10_nobodys, cX10_nobodys, 1, (some .int), 0, 0, [(4, 94), (1, 1), (4, 92), (4, 93)]),
  (RX10, yX10_firstNobodys, cX10_firstNobodys, 1, (some .int), 0, 0, [(4, 102), (1, 1), (4, 100), (4, 101)]),
  (RX10, yX10_disputed, cX10_disputed, 1, (some .int), 0, 0, [(4, 109), (1, 1), (4, 107), (4, 108)]),
  (RX10, yX10_shared, cX10_shared, 3, (some .int), 0, 2, [(4, 113), (1, 1), (4, 111), (4, 112)]),
  (RX10, yX10_in, cX10_in, 3, (some .int), 0, 2, [(4, 117), (1, 1), (4, 115), (4, 116)]),
  (RX10, yX10_fate, cX10_fate, 2, (some .int), 0, 1, [(4, 133), (1, 1), (4, 131), (4, 132)]),
  (RX10, yX10_when, cX10_when, 2, (some .int), 0, 1, [(4, 208), (1, 1), (4, 206), (4, 207)]),
  (RX10, yX10_whom, cX10_whom, 2, (some .int), 0, 1, [(4, 212), (1, 1), (4, 210), (4, 211)]),
  (RX10, yX10_waits, cX10_waits, 2, (some .int), 0, 1, [(4, 216), (1, 1), (4, 214), (4, 215)]),
  (RX10, yX10_altars, cX10_altars, 2, (some .int), 0, 1, [(4, 220), (1, 1), (4, 218), (4, 219)]),
  (RX10, yX10_altar, cX10_altar, 3, (some .int), 0, 2, [(4, 224), (1, 1), (4, 222), (4, 223)]),
  (RX10, yX10_late, cX10_late, 2, (some .int), 0, 1, [(4, 232), (1, 1), (4, 230), (4, 231)]),
  (RX10, yX10_law, cX10_law, 3, (some .int), 0, 2, [(5, 0), (1, 1), (4, 238), (4, 239)]),
  (RX10, yX10_queue, cX10_queue, 3, (some .int), 0, 2, [(5, 9), (1, 1), (5, 7), (5, 8)]),
  (RX10, yX10_alone, cX10_alone, 3, (some .int), 0, 2, [(5, 17), (1, 1), (5, 15), (5, 16)]),
  (RX10, yX10_start, cX10_start, 2, (some .int), 0, 1, [(5, 25), (1, 1), (5, 23), (5, 24)]),
  (RX10, yX10_ring, cX10_ring, 2, (some .int), 0, 1, [(5, 33), (1, 1), (5, 31), (5, 32)]),
  (RX10, yX10_together, cX10_together, 1, (some .int), 0, 0, [(5, 47), (1, 1), (5, 45), (5, 46)]),
  (RX10, yX10_offended, cX10_offended, 1, (some .int), 0, 0, [(5, 62), (1, 1), (5, 60), (5, 61)]),
  (RX10, yX10_keep, cX10_keep, 1, (some .int), 0, 0, [(5, 76), (1, 1), (5, 74), (5, 75)]),
  (RX10, yX10_once, cX10_once, 1, (some .int), 0, 0, [(5, 89), (1, 1), (5, 87), (5, 88)])]
def mch6 : List (String × MethodName × ByteArray × Nat × Option FieldType × Nat × Nat × List (Nat × Nat)) := [
  (RX10, yX10_content, cX10_content, 2, (some .int), 0, 1, [(5, 93), (1, 1), (5, 91), (5, 92)]),
  (RX10, yX10_saint, cX10_saint, 2, (some .int), 0, 1, [(5, 117), (1, 1), (5, 115), (5, 116)]),
  (RX10, yX10_rest, cX10_rest, 1, (some .int), 0, 0, [(5, 126), (1, 1), (5, 124), (5, 125)]),
  (RX10, yX10_rests, cX10_rests, 1, (some .int), 0, 0, [(5, 134), (1, 1), (5, 132), (5, 133)]),
  (RX10, yX10_left, cX10_left, 1, (some .int), 0, 0, [(5, 147), (1, 1), (5, 145), (5, 146)]),
  (RX10, yX10_ends, cX10_ends, 2, (some .int), 0, 1, [(5, 160), (1, 1), (5, 158), (5, 159)]),
  (RX10, yX10_fits, cX10_fits, 1, (some .int), 0, 0, [(5, 176), (1, 1), (5, 174), (5, 175)]),
  (RX10, yX10_ask, cX10_ask, 2, (some .int), 0, 0, [(5, 188), (1, 1), (5, 186), (5, 187)]),
  (RX10, yX10_askMost, cX10_askMost, 2, (some .int), 0, 0, [(5, 207), (1, 1), (5, 205), (5, 206)]),
  (RX10, yX10_sleep, cX10_sleep, 3, (some .boolean), 0, 2, [(5, 211), (1, 1), (5, 209), (5, 210)]),
  (RX10, yX10_age, cX10_age, 3, (some .int), 0, 0, [(5, 237), (1, 1), (5, 235), (5, 236)]),
  (RX10, yX10_price, cX10_price, 3, (some .boolean), 0, 2, [(6, 6), (1, 1), (6, 4), (6, 5)]),
  (RX10, yX10_send, cX10_send, 4, (some .boolean), 0, 3, [(6, 10), (1, 1), (6, 8), (6, 9)]),
  (RX10, yX10_changes, cX10_changes, 3, (some .boolean), 0, 2, [(6, 16), (1, 1), (6, 14), (6, 15)]),
  (RX10, yX10_seed, cX10_seed, 2, (some .boolean), 0, 1, [(6, 20), (1, 1), (6, 18), (6, 19)]),
  (RX10, yX10_undo, cX10_undo, 1, (some .boolean), 0, 0, [(6, 25), (1, 1), (6, 23), (6, 24)]),
  (RX10, yX10_mark, cX10_mark, 2, (some .int), 0, 0, [(6, 33), (1, 1), (6, 31), (6, 32)]),
  (RX10, yX10_back, cX10_back, 2, (some .boolean), 0, 1, [(6, 41), (1, 1), (6, 39), (6, 40)]),
  (RX10, yX10_god, cX10_god, 3, (some .int), 0, 2, [(6, 49), (1, 1), (6, 47), (6, 48)]),
  (RX10, yX10_sends, cX10_sends, 3, (some .int), 0, 2, [(6, 58), (1, 1), (6, 56), (6, 57)]),
  (RX10, yX10_bars, cX10_bars, 3, (some .int), 0, 2, [(6, 62), (1, 1), (6, 60), (6, 61)]),
  (RX10, yX10_prayer, cX10_prayer, 3, (some .int), 0, 2, [(6, 67), (1, 1), (6, 65), (6, 66)]),
  (RX10, yX10_village, cX10_village, 3, (some .int), 0, 2, [(6, 71), (1, 1), (6, 69), (6, 70)]),
  (RX10, yX10_led, cX10_led, 3, (some .int), 0, 1, [(6, 87), (1, 1), (6, 85), (6, 86)]),
  (RX10, yX10_size, cX10_size, 2, (some .int), 0, 1, [(6, 75), (1, 1), (6, 73), (6, 74)])]
def mch7 : List (String × MethodName × ByteArray × Nat × Option FieldType × Nat × Nat × List (Nat × Nat)) := [
  (RX10, yX10_trouble, cX10_trouble, 1, (some .int), 0, 0, [(6, 79), (1, 1), (6, 77), (6, 78)]),
  (RX10, yX10_refuse, cX10_refuse, 2, (some .int), 0, 1, [(2, 206), (1, 1), (2, 205), (0, 0)]),
  (RX10, yX10_answer, cX10_answer, 2, (some .int), 0, 1, [(4, 8), (1, 1), (4, 7), (0, 30)]),
  (RX10, yX10_deny, cX10_deny, 2, (some .boolean), 0, 1, [(5, 215), (1, 1), (5, 214), (0, 53)]),
  (RX10, yX10_allow, cX10_allow, 1, (some .boolean), 0, 0, [(5, 233), (1, 1), (5, 232), (0, 55)]),
  (RX10, yX10_bit, cX10_bit, 1, (some .int), 1, 1, [(4, 50), (1, 1), (4, 49)]),
  (RX10, yX10_isGod, cX10_isGod, 2, (some .boolean), 0, 1, [(4, 32), (1, 1), (4, 31), (0, 31)]),
  (RX10, yX10_isThing, cX10_isThing, 2, (some .boolean), 0, 1, [(4, 36), (1, 1), (4, 35), (0, 32)]),
  (RX10, yX10_isSoil, cX10_isSoil, 1, (some .boolean), 1, 1, [(4, 40), (1, 1), (4, 39)]),
  (RX10, yX10_isHour, cX10_isHour, 1, (some .boolean), 1, 1, [(4, 43), (1, 1), (4, 42)]),
  (RX10, yX10_isPrayer, cX10_isPrayer, 2, (some .boolean), 0, 1, [(4, 137), (1, 1), (4, 136), (0, 33)]),
  (RX10, yX10_isVillage, cX10_isVillage, 2, (some .boolean), 0, 1, [(5, 97), (1, 1), (5, 96), (0, 49)]),
  (RX10, yX10_act, cX10_act, 1, none, 0, 0, [(5, 220), (1, 1), (5, 219), (0, 54)]),
  (RX10, yX10_current, cX10_current, 1, (some (.object "PrayerWay$Days")), 0, 0, [(4, 142), (1, 1), (4, 141), (0, 34)]),
  (RX10, yX10_grantedAlone, cX10_grantedAlone, 3, (some .int), 0, 2, [(5, 21), (1, 1), (5, 20), (0, 45)]),
  (RX10, yX10_bestStart, cX10_bestStart, 6, (some .int), 0, 1, [(5, 29), (1, 1), (5, 28), (0, 46)]),
  (RX10, yX10_ringOf, cX10_ringOf, 6, (some .int), 0, 1, [(5, 37), (1, 1), (5, 36), (0, 47)]),
  (RX10, yX10_walk, cX10_walk, 6, (some .int), 0, 3, [(5, 42), (1, 1), (5, 41), (0, 48)]),
  (RX10, yX10_whyNothingToAsk, cX10_whyNothingToAsk, 1, (some .int), 0, 0, [(5, 192), (1, 1), (5, 191), (0, 52)]),
  (RX10, yX10_factOfGod, cX10_factOfGod, 3, (some .int), 0, 2, [(6, 53), (1, 1), (6, 52), (0, 56)]),
  (RX11, yX11_init, cX11_init, 2, none, 2, 0, [(7, 49), (1, 19), (7, 48)]),
  (RX11, yX11_find, cX11_find, 4, (some .int), 0, 1, [(8, 76), (1, 19), (8, 74), (8, 75)]),
  (RX11, yX11_hoursOf, cX11_hoursOf, 4, (some .int), 0, 3, [(8, 211), (1, 19), (8, 209), (8, 210)]),
  (RX12, yX12_init, cX12_init, 1, none, 2, 0, [(6, 161), (1, 11), (6, 160)]),
  (RX12, yX12_thrown, cX12_thrown, 1, (some .int), 0, 0, [(7, 32), (1, 11), (7, 30), (7, 31)])]
def mch8 : List (String × MethodName × ByteArray × Nat × Option FieldType × Nat × Nat × List (Nat × Nat)) := [
  (RX12, yX12_refused, cX12_refused, 2, (some .int), 0, 1, [(7, 44), (1, 11), (7, 43), (0, 58)]),
  (RX12, yX12_denied, cX12_denied, 2, (some .boolean), 0, 1, [(10, 13), (1, 11), (10, 12), (0, 130)]),
  (RX12, yX12_good, cX12_good, 2, (some .int), 0, 1, [(8, 173), (1, 11), (8, 172), (0, 92)]),
  (RX12, yX12_permitted, cX12_permitted, 1, (some .boolean), 0, 0, [(10, 21), (1, 11), (10, 20), (0, 132)]),
  (RX12, yX12_within, cX12_within, 3, (some .boolean), 1, 3, [(8, 34), (1, 11), (8, 33)]),
  (RX12, yX12_bit, cX12_bit, 2, (some .boolean), 1, 2, [(8, 127), (1, 11), (8, 126)]),
  (RX12, yX12_bits, cX12_bits, 3, (some .int), 1, 1, [(8, 230), (1, 11), (8, 229)]),
  (RX12, yX12_byteAt, cX12_byteAt, 2, (some .int), 0, 1, [(7, 225), (1, 11), (7, 224), (0, 60)]),
  (RX12, yX12_isLetter, cX12_isLetter, 1, (some .boolean), 1, 1, [(7, 228), (1, 11), (7, 227)]),
  (RX12, yX12_isDigit, cX12_isDigit, 1, (some .boolean), 1, 1, [(7, 232), (1, 11), (7, 231)]),
  (RX12, yX12_wordOf, cX12_wordOf, 4, (some .long), 1, 1, [(8, 8), (1, 11), (8, 7)]),
  (RX12, yX12_goesOn, cX12_goesOn, 3, none, 0, 0, [(7, 221), (1, 11), (7, 220), (0, 59)]),
  (RX12, yX12_flaw, cX12_flaw, 2, none, 0, 1, [(8, 18), (1, 11), (8, 17), (0, 65)]),
  (RX12, yX12_isWord, cX12_isWord, 2, (some .boolean), 0, 1, [(8, 5), (1, 11), (8, 4), (0, 63)]),
  (RX12, yX12_eatsSign, cX12_eatsSign, 3, (some .boolean), 0, 1, [(8, 169), (1, 11), (8, 168), (0, 91)]),
  (RX12, yX12_needs, cX12_needs, 2, none, 0, 1, [(8, 27), (1, 11), (8, 26), (0, 67)]),
  (RX12, yX12_needsSign, cX12_needsSign, 2, none, 0, 1, [(8, 140), (1, 11), (8, 139), (0, 86)]),
  (RX12, yX12_readWhole, cX12_readWhole, 4, (some .int), 0, 2, [(8, 31), (1, 11), (8, 30), (0, 68)]),
  (RX12, yX12_readPart, cX12_readPart, 4, (some .int), 0, 3, [(8, 23), (1, 11), (8, 22), (0, 66)]),
  (RX12, yX12_isName, cX12_isName, 1, (some .boolean), 0, 0, [(8, 61), (1, 11), (8, 60), (0, 73)]),
  (RX12, yX12_begins, cX12_begins, 3, none, 0, 2, [(8, 48), (1, 11), (8, 47), (0, 70)]),
  (RX12, yX12_readFresh, cX12_readFresh, 3, (some .long), 0, 0, [(8, 57), (1, 11), (8, 56), (0, 72)]),
  (RX12, yX12_names, cX12_names, 5, none, 0, 3, [(8, 80), (1, 11), (8, 79), (0, 74)]),
  (RX12, yX12_known, cX12_known, 3, (some .int), 0, 1, [(8, 108), (1, 11), (8, 107), (0, 79)]),
  (RX12, yX12_readKnown, cX12_readKnown, 3, (some .int), 0, 1, [(8, 104), (1, 11), (8, 103), (0, 78)])]
def mch9 : List (String × MethodName × ByteArray × Nat × Option FieldType × Nat × Nat × List (Nat × Nat)) := [
  (RX12, yX12_knownUnlike, cX12_knownUnlike, 4, (some .int), 0, 2, [(8, 120), (1, 11), (8, 119), (0, 82)]),
  (RX12, yX12_readCell, cX12_readCell, 3, (some .int), 0, 0, [(8, 135), (1, 11), (8, 134), (0, 85)]),
  (RX12, yX12_readSoil, cX12_readSoil, 4, (some .int), 0, 1, [(8, 112), (1, 11), (8, 111), (0, 80)]),
  (RX12, yX12_readAll, cX12_readAll, 2, none, 0, 0, [(7, 236), (1, 11), (7, 235), (0, 61)]),
  (RX12, yX12_readLine, cX12_readLine, 1, none, 0, 0, [(8, 0), (1, 11), (7, 239), (0, 62)]),
  (RX12, yX12_readLand, cX12_readLand, 4, none, 0, 0, [(8, 14), (1, 11), (8, 13), (0, 64)]),
  (RX12, yX12_readRow, cX12_readRow, 3, none, 0, 0, [(8, 44), (1, 11), (8, 43), (0, 69)]),
  (RX12, yX12_readThing, cX12_readThing, 3, none, 0, 0, [(8, 53), (1, 11), (8, 52), (0, 71)]),
  (RX12, yX12_readLuck, cX12_readLuck, 2, none, 0, 0, [(8, 84), (1, 11), (8, 83), (0, 75)]),
  (RX12, yX12_readGod, cX12_readGod, 9, none, 0, 0, [(8, 88), (1, 11), (8, 87), (0, 76)]),
  (RX12, yX12_readHolds, cX12_readHolds, 10, none, 0, 0, [(8, 100), (1, 11), (8, 99), (0, 77)]),
  (RX12, yX12_readSends, cX12_readSends, 4, none, 0, 0, [(8, 116), (1, 11), (8, 115), (0, 81)]),
  (RX12, yX12_readBars, cX12_readBars, 3, none, 0, 0, [(8, 124), (1, 11), (8, 123), (0, 83)]),
  (RX12, yX12_readPrayer, cX12_readPrayer, 11, none, 0, 0, [(8, 131), (1, 11), (8, 130), (0, 84)]),
  (RX12, yX12_readClash, cX12_readClash, 3, none, 0, 0, [(8, 146), (1, 11), (8, 145), (0, 87)]),
  (RX12, yX12_readVillage, cX12_readVillage, 5, none, 0, 0, [(8, 150), (1, 11), (8, 149), (0, 88)]),
  (RX12, yX12_readSpell, cX12_readSpell, 3, none, 0, 0, [(8, 155), (1, 11), (8, 154), (0, 89)]),
  (RX12, yX12_readSaw, cX12_readSaw, 5, none, 0, 0, [(8, 163), (1, 11), (8, 162), (0, 90)]),
  (RX12, yX12_feed, cX12_feed, 8, (some .int), 0, 5, [(7, 36), (1, 11), (7, 34), (7, 35)]),
  (RX12, yX12_land, cX12_land, 3, (some .int), 0, 1, [(7, 40), (1, 11), (7, 38), (7, 39)]),
  (RX12, yX12_fault, cX12_fault, 1, (some .int), 0, 0, [(8, 177), (1, 11), (8, 175), (8, 176)]),
  (RX12, yX12_where, cX12_where, 1, (some .int), 0, 0, [(8, 181), (1, 11), (8, 179), (8, 180)]),
  (RX12, yX12_isGod, cX12_isGod, 2, (some .boolean), 0, 1, [(8, 193), (1, 11), (8, 192), (0, 93)]),
  (RX12, yX12_isThing, cX12_isThing, 2, (some .boolean), 0, 1, [(8, 197), (1, 11), (8, 196), (0, 94)]),
  (RX12, yX12_isPrayer, cX12_isPrayer, 2, (some .boolean), 0, 1, [(9, 38), (1, 11), (9, 37), (0, 102)])]
def mch10 : List (String × MethodName × ByteArray × Nat × Option FieldType × Nat × Nat × List (Nat × Nat)) := [
  (RX12, yX12_isVillage, cX12_isVillage, 2, (some .boolean), 0, 1, [(9, 170), (1, 11), (9, 169), (0, 119)]),
  (RX12, yX12_isSoil, cX12_isSoil, 1, (some .boolean), 1, 1, [(8, 200), (1, 11), (8, 199)]),
  (RX12, yX12_isHour, cX12_isHour, 1, (some .boolean), 1, 1, [(8, 203), (1, 11), (8, 202)]),
  (RX12, yX12_isAsleep, cX12_isAsleep, 2, (some .boolean), 0, 1, [(9, 30), (1, 11), (9, 29), (0, 101)]),
  (RX12, yX12_isIn, cX12_isIn, 3, (some .boolean), 0, 2, [(9, 26), (1, 11), (9, 25), (0, 100)]),
  (RX12, yX12_soil, cX12_soil, 3, (some .int), 0, 2, [(8, 185), (1, 11), (8, 183), (8, 184)]),
  (RX12, yX12_hasIt, cX12_hasIt, 5, (some .boolean), 0, 4, [(8, 207), (1, 11), (8, 206), (0, 95)]),
  (RX12, yX12_has, cX12_has, 5, (some .int), 0, 4, [(8, 189), (1, 11), (8, 187), (8, 188)]),
  (RX12, yX12_ownersOf, cX12_ownersOf, 6, (some .int), 0, 3, [(8, 219), (1, 11), (8, 218), (0, 96)]),
  (RX12, yX12_owners, cX12_owners, 4, (some .int), 0, 3, [(8, 215), (1, 11), (8, 213), (8, 214)]),
  (RX12, yX12_isOn, cX12_isOn, 2, (some .boolean), 0, 1, [(8, 227), (1, 11), (8, 226), (0, 97)]),
  (RX12, yX12_many, cX12_many, 5, (some .int), 0, 1, [(8, 223), (1, 11), (8, 221), (8, 222)]),
  (RX12, yX12_points, cX12_points, 1, (some .int), 0, 0, [(8, 234), (1, 11), (8, 232), (8, 233)]),
  (RX12, yX12_owned, cX12_owned, 7, (some .int), 0, 2, [(9, 2), (1, 11), (9, 1), (0, 98)]),
  (RX12, yX12_nobodys, cX12_nobodys, 1, (some .int), 0, 0, [(8, 238), (1, 11), (8, 236), (8, 237)]),
  (RX12, yX12_firstNobodys, cX12_firstNobodys, 4, (some .int), 0, 0, [(9, 6), (1, 11), (9, 4), (9, 5)]),
  (RX12, yX12_disputed, cX12_disputed, 1, (some .int), 0, 0, [(9, 10), (1, 11), (9, 8), (9, 9)]),
  (RX12, yX12_sharedBy, cX12_sharedBy, 6, (some .int), 0, 2, [(9, 18), (1, 11), (9, 17), (0, 99)]),
  (RX12, yX12_shared, cX12_shared, 3, (some .int), 0, 2, [(9, 14), (1, 11), (9, 12), (9, 13)]),
  (RX12, yX12_in, cX12_in, 3, (some .int), 0, 2, [(9, 22), (1, 11), (9, 20), (9, 21)]),
  (RX12, yX12_days, cX12_days, 7, none, 0, 4, [(9, 46), (1, 11), (9, 45), (0, 104)]),
  (RX12, yX12_comes, cX12_comes, 4, none, 0, 3, [(9, 50), (1, 11), (9, 49), (0, 105)]),
  (RX12, yX12_serves, cX12_serves, 6, none, 0, 3, [(9, 54), (1, 11), (9, 53), (0, 106)]),
  (RX12, yX12_nextAt, cX12_nextAt, 6, (some .int), 0, 3, [(9, 58), (1, 11), (9, 57), (0, 107)]),
  (RX12, yX12_isAhead, cX12_isAhead, 5, (some .boolean), 0, 3, [(9, 62), (1, 11), (9, 61), (0, 108)])]
def mch11 : List (String × MethodName × ByteArray × Nat × Option FieldType × Nat × Nat × List (Nat × Nat)) := [
  (RX12, yX12_grants, cX12_grants, 5, (some .boolean), 0, 2, [(9, 70), (1, 11), (9, 69), (0, 110)]),
  (RX12, yX12_served, cX12_served, 5, none, 0, 3, [(9, 66), (1, 11), (9, 65), (0, 109)]),
  (RX12, yX12_allDays, cX12_allDays, 1, none, 0, 0, [(9, 42), (1, 11), (9, 41), (0, 103)]),
  (RX12, yX12_fate, cX12_fate, 2, (some .int), 0, 1, [(9, 34), (1, 11), (9, 32), (9, 33)]),
  (RX12, yX12_when, cX12_when, 2, (some .int), 0, 1, [(9, 74), (1, 11), (9, 72), (9, 73)]),
  (RX12, yX12_whom, cX12_whom, 2, (some .int), 0, 1, [(9, 78), (1, 11), (9, 76), (9, 77)]),
  (RX12, yX12_waits, cX12_waits, 2, (some .int), 0, 1, [(9, 82), (1, 11), (9, 80), (9, 81)]),
  (RX12, yX12_altars, cX12_altars, 2, (some .int), 0, 1, [(9, 86), (1, 11), (9, 84), (9, 85)]),
  (RX12, yX12_altar, cX12_altar, 3, (some .int), 0, 2, [(9, 90), (1, 11), (9, 88), (9, 89)]),
  (RX12, yX12_isLate, cX12_isLate, 2, (some .boolean), 0, 1, [(9, 98), (1, 11), (9, 97), (0, 111)]),
  (RX12, yX12_late, cX12_late, 2, (some .int), 0, 1, [(9, 94), (1, 11), (9, 92), (9, 93)]),
  (RX12, yX12_law, cX12_law, 5, (some .int), 0, 2, [(9, 102), (1, 11), (9, 100), (9, 101)]),
  (RX12, yX12_queue, cX12_queue, 5, (some .int), 0, 2, [(9, 106), (1, 11), (9, 104), (9, 105)]),
  (RX12, yX12_aloneFrom, cX12_aloneFrom, 3, (some .int), 0, 2, [(9, 114), (1, 11), (9, 113), (0, 112)]),
  (RX12, yX12_alone, cX12_alone, 3, (some .int), 0, 2, [(9, 110), (1, 11), (9, 108), (9, 109)]),
  (RX12, yX12_start, cX12_start, 6, (some .int), 0, 1, [(9, 118), (1, 11), (9, 116), (9, 117)]),
  (RX12, yX12_ring, cX12_ring, 6, (some .int), 0, 1, [(9, 122), (1, 11), (9, 120), (9, 121)]),
  (RX12, yX12_areAtPeace, cX12_areAtPeace, 3, (some .boolean), 0, 1, [(9, 138), (1, 11), (9, 137), (0, 115)]),
  (RX12, yX12_grantedBy, cX12_grantedBy, 4, (some .int), 0, 1, [(9, 134), (1, 11), (9, 133), (0, 114)]),
  (RX12, yX12_allGods, cX12_allGods, 1, (some .int), 0, 0, [(9, 130), (1, 11), (9, 129), (0, 113)]),
  (RX12, yX12_together, cX12_together, 4, (some .int), 0, 0, [(9, 126), (1, 11), (9, 124), (9, 125)]),
  (RX12, yX12_offended, cX12_offended, 3, (some .int), 0, 0, [(9, 142), (1, 11), (9, 140), (9, 141)]),
  (RX12, yX12_haveAll, cX12_haveAll, 7, (some .boolean), 0, 1, [(9, 154), (1, 11), (9, 153), (0, 117)]),
  (RX12, yX12_share, cX12_share, 4, (some .boolean), 0, 1, [(9, 158), (1, 11), (9, 157), (0, 118)]),
  (RX12, yX12_fewest, cX12_fewest, 4, (some .int), 0, 1, [(9, 150), (1, 11), (9, 149), (0, 116)])]
def mch12 : List (String × MethodName × ByteArray × Nat × Option FieldType × Nat × Nat × List (Nat × Nat)) := [
  (RX12, yX12_keep, cX12_keep, 1, (some .int), 0, 0, [(9, 146), (1, 11), (9, 144), (9, 145)]),
  (RX12, yX12_once, cX12_once, 1, (some .int), 0, 0, [(9, 162), (1, 11), (9, 160), (9, 161)]),
  (RX12, yX12_laysSaints, cX12_laysSaints, 2, none, 0, 0, [(9, 174), (1, 11), (9, 173), (0, 120)]),
  (RX12, yX12_contentOf, cX12_contentOf, 6, (some .int), 0, 1, [(9, 178), (1, 11), (9, 177), (0, 121)]),
  (RX12, yX12_bestFor, cX12_bestFor, 6, (some .int), 0, 1, [(9, 186), (1, 11), (9, 185), (0, 122)]),
  (RX12, yX12_isAtRest, cX12_isAtRest, 5, (some .boolean), 0, 0, [(9, 194), (1, 11), (9, 193), (0, 123)]),
  (RX12, yX12_content, cX12_content, 2, (some .int), 0, 1, [(9, 166), (1, 11), (9, 164), (9, 165)]),
  (RX12, yX12_saint, cX12_saint, 2, (some .int), 0, 1, [(9, 182), (1, 11), (9, 180), (9, 181)]),
  (RX12, yX12_rest, cX12_rest, 1, (some .int), 0, 0, [(9, 190), (1, 11), (9, 188), (9, 189)]),
  (RX12, yX12_rests, cX12_rests, 6, (some .int), 0, 0, [(9, 198), (1, 11), (9, 196), (9, 197)]),
  (RX12, yX12_spelled, cX12_spelled, 3, (some .int), 1, 3, [(9, 209), (1, 11), (9, 208)]),
  (RX12, yX12_luck, cX12_luck, 1, (some .int), 0, 0, [(9, 206), (1, 11), (9, 205), (0, 124)]),
  (RX12, yX12_left, cX12_left, 3, (some .int), 0, 0, [(9, 202), (1, 11), (9, 200), (9, 201)]),
  (RX12, yX12_findsEnds, cX12_findsEnds, 9, none, 0, 0, [(9, 217), (1, 11), (9, 216), (0, 125)]),
  (RX12, yX12_findsEnd, cX12_findsEnd, 3, none, 0, 1, [(9, 221), (1, 11), (9, 220), (0, 126)]),
  (RX12, yX12_ends, cX12_ends, 5, (some .int), 0, 1, [(9, 213), (1, 11), (9, 211), (9, 212)]),
  (RX12, yX12_fitting, cX12_fitting, 4, (some .int), 0, 0, [(9, 229), (1, 11), (9, 228), (0, 127)]),
  (RX12, yX12_fits, cX12_fits, 1, (some .int), 0, 0, [(9, 225), (1, 11), (9, 223), (9, 224)]),
  (RX12, yX12_asks, cX12_asks, 8, none, 0, 0, [(10, 1), (1, 11), (10, 0), (0, 129)]),
  (RX12, yX12_refusesAsk, cX12_refusesAsk, 1, (some .int), 0, 0, [(9, 237), (1, 11), (9, 236), (0, 128)]),
  (RX12, yX12_ask, cX12_ask, 2, (some .int), 0, 0, [(9, 233), (1, 11), (9, 231), (9, 232)]),
  (RX12, yX12_askMost, cX12_askMost, 2, (some .int), 0, 0, [(10, 5), (1, 11), (10, 3), (10, 4)]),
  (RX12, yX12_keeps, cX12_keeps, 2, none, 0, 0, [(10, 17), (1, 11), (10, 16), (0, 131)]),
  (RX12, yX12_sleep, cX12_sleep, 3, (some .boolean), 0, 2, [(10, 9), (1, 11), (10, 7), (10, 8)]),
  (RX12, yX12_age, cX12_age, 2, (some .int), 0, 0, [(10, 25), (1, 11), (10, 23), (10, 24)])]
def mch13 : List (String × MethodName × ByteArray × Nat × Option FieldType × Nat × Nat × List (Nat × Nat)) := [
  (RX12, yX12_price, cX12_price, 3, (some .boolean), 0, 2, [(10, 32), (1, 11), (10, 30), (10, 31)]),
  (RX12, yX12_send, cX12_send, 4, (some .boolean), 0, 3, [(10, 36), (1, 11), (10, 34), (10, 35)]),
  (RX12, yX12_changes, cX12_changes, 3, (some .boolean), 0, 2, [(10, 40), (1, 11), (10, 38), (10, 39)]),
  (RX12, yX12_seed, cX12_seed, 2, (some .boolean), 0, 1, [(10, 44), (1, 11), (10, 42), (10, 43)]),
  (RX12, yX12_undo, cX12_undo, 2, (some .boolean), 0, 0, [(10, 49), (1, 11), (10, 47), (10, 48)]),
  (RX12, yX12_mark, cX12_mark, 2, (some .int), 0, 0, [(10, 53), (1, 11), (10, 51), (10, 52)]),
  (RX12, yX12_back, cX12_back, 3, (some .boolean), 0, 1, [(10, 57), (1, 11), (10, 55), (10, 56)]),
  (RX12, yX12_god, cX12_god, 3, (some .int), 0, 2, [(10, 61), (1, 11), (10, 59), (10, 60)]),
  (RX12, yX12_sends, cX12_sends, 3, (some .int), 0, 2, [(10, 65), (1, 11), (10, 63), (10, 64)]),
  (RX12, yX12_bars, cX12_bars, 3, (some .int), 0, 2, [(10, 69), (1, 11), (10, 67), (10, 68)]),
  (RX12, yX12_prayer, cX12_prayer, 3, (some .int), 0, 2, [(10, 73), (1, 11), (10, 71), (10, 72)]),
  (RX12, yX12_village, cX12_village, 3, (some .int), 0, 2, [(10, 77), (1, 11), (10, 75), (10, 76)]),
  (RX12, yX12_led, cX12_led, 4, (some .int), 0, 1, [(10, 81), (1, 11), (10, 79), (10, 80)]),
  (RX12, yX12_size, cX12_size, 2, (some .int), 0, 1, [(10, 85), (1, 11), (10, 83), (10, 84)]),
  (RX12, yX12_trouble, cX12_trouble, 1, (some .int), 0, 0, [(10, 89), (1, 11), (10, 87), (10, 88)]),
  (RJ6, yJ6_bitCount_0f7a4, cJ6_bitCount_0f7a4, 1, (some .int), 1, 1, [(4, 79), (1, 21), (4, 78)]),
  (RJ0, yJ0_length_8abf5, cJ0_length_8abf5, 1, (some .int), 0, 0, [(3, 11), (1, 14), (3, 9), (3, 10)]),
  (RJ0, yJ0_charAt_5068e, cJ0_charAt_5068e, 2, (some .char), 0, 1, [(3, 21), (1, 14), (3, 19), (3, 20)]),
  (RJ0, yJ0_coder_7d493, cJ0_coder_7d493, 1, (some .byte), 0, 0, [(3, 15), (1, 14), (3, 13), (3, 14)]),
  (RJ0, yJ0_isLatin1_aae02, cJ0_isLatin1_aae02, 1, (some .boolean), 0, 0, [(3, 25), (1, 14), (3, 23), (3, 24)]),
  (RJ0, yJ0_checkIndex_df160, cJ0_checkIndex_df160, 2, none, 1, 2, [(3, 31), (1, 14), (3, 30)]),
  (RJ1, yJ1_charAt_3b067, cJ1_charAt_3b067, 2, (some .char), 1, 2, [(3, 28), (1, 15), (3, 27)]),
  (RJ7, yJ7_fill_53178, cJ7_fill_53178, 4, none, 1, 2, [(2, 217), (1, 12), (2, 216)]),
  (RJ3, yJ3_checkIndex_8e157, cJ3_checkIndex_8e157, 3, (some .int), 1, 3, [(3, 36), (1, 16), (3, 35)])]
def mbody : List (String × MethodName × ByteArray × Nat × Option FieldType × Nat × Nat × List (Nat × Nat)) := mch0 ++ (mch1 ++ (mch2 ++ (mch3 ++ (mch4 ++ (mch5 ++ (mch6 ++ (mch7 ++ (mch8 ++ (mch9 ++ (mch10 ++ (mch11 ++ (mch12 ++ (mch13)))))))))))))
def mths : List (String × MethodName × ByteArray × Nat × Option FieldType × Nat × Nat × List (Nat × Nat)) := mbody ++ [(RL, yL_law, cL_law, 7, some .boolean, 1, 1, [])]
/-! ===== THE SMALL MACHINE: memory (ints, longs, references, shapes, size), environment, what the heap shows of a memory ===== -/
abbrev Mm : Type := (Nat → Nat → Int32) × (Nat → Nat → Int64) × (Nat → Nat → Option Nat) × (Nat → Nat × Nat) × Nat
def mI (m : Mm) : Nat → Nat → Int32 := m.1
def mJ (m : Mm) : Nat → Nat → Int64 := m.2.1
def mR (m : Mm) : Nat → Nat → Option Nat := m.2.2.1
def mS (m : Mm) : Nat → Nat × Nat := m.2.2.2.1
def mZ (m : Mm) : Nat := m.2.2.2.2
def rI (m : Mm) (a : Nat) (f : Nat → Int32) : Mm := (va_up m.1 a f, m.2)
def uI (m : Mm) (a k : Nat) (x : Int32) : Mm := (va_up m.1 a (upd (m.1 a) k x), m.2)
def uJ (m : Mm) (a k : Nat) (x : Int64) : Mm := (m.1, va_up m.2.1 a (vp_updL (m.2.1 a) k x), m.2.2)
def uR (m : Mm) (a k : Nat) (x : Option Nat) : Mm := (m.1, m.2.1, va_up m.2.2.1 a (va_up (m.2.2.1 a) k x), m.2.2.2)
def nA (m : Mm) (t n : Nat) : Mm := (va_up m.1 m.2.2.2.2 (fun _ => 0), va_up m.2.1 m.2.2.2.2 (fun _ => 0), va_up m.2.2.1 m.2.2.2.2 (fun _ => none), va_up m.2.2.2.1 m.2.2.2.2 (t, n), m.2.2.2.2 + 1)
/-- the launch, the classes' numbers, their slots, where the world begins, the old cells by their codes, the script -/
abbrev En : Type := Launch × (Nat → ClassId) × (Nat → Nat → Nat) × Nat × (Nat → Nat) × Nat × (Nat → Int32)
def eL (E : En) : Launch := E.1
def eD (E : En) : va_G := (E.2.1, E.2.2.1)
def eB (E : En) : Nat := E.2.2.2.1
def eO (E : En) : Nat → Nat := E.2.2.2.2.1
def eN (E : En) : Nat := E.2.2.2.2.2.1
def eX (E : En) : Nat → Int32 := E.2.2.2.2.2.2
def eA (E : En) : Nat → Prop := fun q => eB E ≤ q
def ro (E : En) (k : Nat) : Nat := if k < 1000000 then eB E + k else eO E k
def rv (E : En) (v : Value) : Value := match v with
  | .ref k => .ref (ro E k)
  | v => v
def kd (t j : Nat) : Nat := (kdL.getD t []).getD j 0
def fv (E : En) (m : Mm) (t a j : Nat) : Value := if kd t j = 1 then .long (mJ m a j) else if kd t j = 2 then va_rf ((mR m a j).map (ro E)) else .int (mI m a j)
def zA (U : State) (H : Heap) (ty : FieldType) (q n : Nat) (f : Nat → Value) : Prop := ∃ cA : ClassId, (ArrOfT U cA ty ∧ va_RA U cA ty) ∧ H[q]? = some (arrV cA n f)
def zOb (E : En) (m : Mm) (H : Heap) (t n a : Nat) : Prop := ∃ r : vw_C, vwCl[t]? = some r ∧ n = r.2.2 ∧ t_OB (eB E + a) ((eD E).1 t) r.2.2 ((eD E).2 t) H (fv E m t a)
def zc (E : En) (m : Mm) (U : State) (H : Heap) (a : Nat) : Prop :=
  if (mS m a).1 < 50 then zOb E m H (mS m a).1 (mS m a).2 a
  else if (mS m a).1 = 100 then zA U H .int (eB E + a) (mS m a).2 (fun j => .int (mI m a j))
  else if (mS m a).1 = 101 then zA U H .byte (eB E + a) (mS m a).2 (fun j => .int (mI m a j))
  else if (mS m a).1 = 102 then zA U H .boolean (eB E + a) (mS m a).2 (fun j => .int (mI m a j))
  else if (mS m a).1 = 103 then zA U H .long (eB E + a) (mS m a).2 (fun j => .long (mJ m a j))
  else if (mS m a).1 = 104 then zA U H (.object RX7) (eB E + a) (mS m a).2 (fun j => va_rf ((mR m a j).map (ro E)))
  else True
def Hp (E : En) (m : Mm) (U : State) (H : Heap) : Prop := H.size = eB E + mZ m ∧ mZ m ≤ 1000000 ∧ ∀ a, a < mZ m → zc E m U H a
/-- what was there from the start: classes, texts, statics, the script, links within a nest -/
def sOk (E : En) (U : State) (H : Heap) (i : Nat) : Prop := match sS[i]? with
  | some (o, k, tx, bs) => vk_R o k tx (eO E (1000000 + i)) U ∧ va_O "java/lang/String" (eO E (1000000 + i)) (eA E) U H ∧ va_OF "java/lang/String" "coder" "B" (.int 0) (eO E (1000000 + i)) (eA E) U H ∧ va_OF "java/lang/String" "value" "[B" (.ref (eO E (2000000 + i))) (eO E (1000000 + i)) (eA E) U H ∧ va_T .byte (eO E (2000000 + i)) bs.length (fun j => .int (bs.getD j 0)) (eA E) U H
  | none => True
def Tb (E : En) (U : State) (H : Heap) : Prop :=
  va_K (eD E) vwCl [] U ∧ (∀ i, i < sS.length → sOk E U H i) ∧ (va_Z "PrayerWay" "ROOM" "[I" (.ref (eO E 3000001)) (eA E) U H ∧ va_T .int (eO E 3000001) roomL.length (fun j => .int (roomL.getD j 0)) (eA E) U H) ∧ va_Z "java/lang/String" "COMPACT_STRINGS" "Z" (.int 1) (eA E) U H ∧ (va_Z "jdk/internal/util/Preconditions" "SIOOBE_FORMATTER" "Ljava/util/function/BiFunction;" .null (eA E) U H ∨ va_Z "jdk/internal/util/Preconditions" "SIOOBE_FORMATTER" "Ljava/util/function/BiFunction;" (.ref (eO E 3000002)) (eA E) U H) ∧ (va_X (eO E 3000000) (eN E) (eX E) U H ∧ eO E 3000000 < eB E) ∧ va_AO "PrayerWay$State" U ∧ (∀ a i b n d h, Cond.fieldLinkNest a i b n d h ∈ tables_1 → va_Nw (.fieldLinkNest a i b n d h) U) ∧ (∀ a i x h, Cond.methodLinkNest a i x h ∈ tables_1 → va_Nw (.methodLinkNest a i x h) U) ∧ ((eL E).stackTraces = false ∧ vx_Zq Bundle.tN "UNASSIGNED_STACK" Bundle.steD (eA E) U H ∧ vx_Zq Bundle.tN "SUPPRESSED_SENTINEL" Bundle.listD (eA E) U H ∧ va_Nw (.castable "java/util/NoSuchElementException" "java/util/NoSuchElementException") U ∧ va_Nw (.declares (Bundle.initS "java/lang/RuntimeException")) U ∧ va_Nw (.declares (Bundle.initS "java/lang/Exception")) U ∧ va_Nw (.declares (Bundle.initS Bundle.tN)) U)
/-- a method: its class, name, bytes, locals, return type, sort (0 of an object, 1 static, 2 a constructor), parameters, where its words stand -/
abbrev MT : Type := String × MethodName × ByteArray × Nat × Option FieldType × Nat × Nat × List (Nat × Nat)
def tb (t : Nat) : List Cond := [k2_sels lw_privs, tables_1_1, tables_1_2, tables_1_3, tables_1_4, tables_1_5, tables_1_6, tables_1_7, tables_1_8, tables_1_9, tables_1_10].getD t []
def BIG : List Cond := lw_tbl.filter goodWord
def wsM (X : MT) : List Cond := Cond.code X.2.1 X.2.2.1 X.2.2.2.1 X.2.2.2.2.1 :: BIG
def rm (d mc ms : Nat) : Room := { frames := d, cells := mc, slots := ms, locals := 100 * d }
def QC (E : En) (Q : Option Value → Mm → Prop) : Array Value → State → Outcome → State → Prop := fun _ st o t => (∃ (r : Option Value) (m : Mm), o = .returned (r.map (rv E)) ∧ Q r m ∧ Hp E m t t.heap) ∧ va_F (eA E) st t
def mth (k : Nat) : MT := mths.getD k ("", ⟨"", "", ""⟩, ⟨#[]⟩, 0, none, 0, 0, [])
/-- THE CONTRACT of method k: from memory m with these arguments it returns, and Q -/
def Cc (d mc ms k : Nat) (args : List Value) (m : Mm) (Q : Option Value → Mm → Prop) : Prop := ∀ E : En, Met (eL E) (mth k).2.1 (wsM (mth k)) (rm d mc ms) (va_Pc (args.map (rv E)) (fun U => Tb E U U.heap ∧ Hp E m U U.heap)) (QC E Q) mc ms (eA E)
/-- locals -/
def zlv (E : En) (L : List (Option Value)) : List (Nat × Value) := (List.range L.length).filterMap fun k => (L.getD k none).map fun v => (k, rv E v)
def clr (L : List (Option Value)) (i : Nat) : List (Option Value) := match i with
  | 0 => L
  | j + 1 => match L.getD j none with
    | some v => if v.category = 2 then L.set j none else L
    | none => L
def st1 (L : List (Option Value)) (i : Nat) (v : Value) : List (Option Value) := (clr L i).set i (some v)
def st2 (L : List (Option Value)) (i : Nat) (v : Value) : List (Option Value) := ((clr L i).set i (some v)).set (i + 1) none
def zE (n : Nat) (vs : List Value) : List (Option Value) := (vs.flatMap fun v => if v.category = 2 then [some v, none] else [some v]) ++ List.replicate (n - (vs.flatMap fun v => if v.category = 2 then [some v, none] else [some v]).length) none
def Cx (E : En) (sc : Nat × (Nat → Int32)) (d mc ms : Nat) (X : MT) (p : Program) (R : Room) (st : State) (mid : MethodId) (args : Array Value) (meth : Method) (cd : Code) : Prop :=
  p.tables.exec = Jvm.exec ∧ cd.code = X.2.2.1 ∧ cd.maxLocals = X.2.2.2.1 ∧ meth.sig.returnType = X.2.2.2.2.1 ∧ st.vm.findClass X.1 = some mid.cls ∧ (∀ w ∈ BIG, w.before args st = true) ∧ meth.locks = false ∧ meth.name = X.2.1.name ∧ Tb E st st.heap ∧ eB E ≤ st.heap.size ∧ (d ≤ R.frames ∧ 100 * d ≤ R.locals ∧ mc ≤ R.cells ∧ ms ≤ R.slots) ∧ (eN E = sc.1 ∧ eX E = sc.2)
/-- THE JUDGEMENT at an instruction of method X -/
def Jj (sc : Nat × (Nat → Int32)) (d mc ms : Nat) (X : MT) (pc : Nat) (L : List (Option Value)) (S : List Value) (m : Mm) (c s : Nat) (Q : Option Value → Mm → Prop) : Prop :=
  ∀ (E : En) (p : Program) (e : Env) (R : Room) (st : State) (mid : MethodId) (args : Array Value) (below : List Frame) (meth : Method) (cd : Code) (H : Heap) (locs : List Loc) (ls : Array Slot),
    Cx E sc d mc ms X p R st mid args meth cd → Hp E m st H → va_S (eA E) st.heap H locs → lv_has ls X.2.2.2.1 (zlv E L) →
    W p (eL E) e R st mid args below meth cd H locs c s (MQ below (QC E Q) args st mc ms (eA E)) (F0 mid pc ls (S.map (rv E)))
/-! what an instruction asks, and where it goes on -/
abbrev Rt : Type := Nat → List (Option Value) → List Value → Mm → Nat → Nat → Prop
def pI (S : List Value) (f : Int32 → List Value → Prop) : Prop := match S with
  | .int x :: r => f x r
  | _ => False
def pJ (S : List Value) (f : Int64 → List Value → Prop) : Prop := match S with
  | .long x :: r => f x r
  | _ => False
def pA (S : List Value) (f : Nat → List Value → Prop) : Prop := match S with
  | .ref x :: r => f x r
  | _ => False
def gI (L : List (Option Value)) (k : Nat) (f : Int32 → Prop) : Prop := match L.getD k none with
  | some (.int x) => f x
  | _ => False
def gJ (L : List (Option Value)) (k : Nat) (f : Int64 → Prop) : Prop := match L.getD k none with
  | some (.long x) => f x
  | _ => False
def gA (L : List (Option Value)) (k : Nat) (f : Nat → Prop) : Prop := match L.getD k none with
  | some (.ref x) => f x
  | _ => False
/-- constants: [0, k] the int k, [1, k] the int -k, [2, j] the text j, [3, k] the long k -/
def kc (ex : List Nat) (f : Value → Prop) : Prop := match ex with
  | [0, k] => f (.int (nI k))
  | [1, k] => f (.int (-nI k))
  | [2, j, _, _] => f (.ref (1000000 + j))
  | [3, k, _, _] => f (.long (lN k))
  | [4, k, _, _] => f (.int (nI k))
  | _ => False
def ki (ex : List Nat) (x : Int32) (f : Int32 → Prop) : Prop := match ex with
  | [0, k] => f (x + nI k)
  | [1, k] => f (x + -nI k)
  | _ => False
def t0 (ex : List Nat) : Nat := ex.getD 0 0
/-- a cell of a sort -/
def oS (m : Mm) (a t : Nat) : Prop := a < mZ m ∧ (mS m a).1 = t
def swl (R : Nat → Prop) (ts : List Nat) (j : Nat) (x : Int32) : Prop := match ts with
  | [] => True
  | t :: r => (x = nI j → R t) ∧ swl R r (j + 1) x
def spl (n : Nat) (S acc : List Value) (f : List Value → List Value → Prop) : Prop := match n with
  | 0 => f acc S
  | n + 1 => match S with
    | v :: r => spl n r (v :: acc) f
    | [] => False
def csum (S : List Value) : Nat := match S with
  | [] => 0
  | v :: r => v.category + csum r
def hd? (l : List Value) (f : Nat → Prop) : Prop := match l with
  | .ref a :: _ => f a
  | _ => False
/-- a field read: [class, slot, kind, ..] -/
def zGet (R : Rt) (ex : List Nat) (nx : Nat) (L : List (Option Value)) (a : Nat) (S : List Value) (m : Mm) (c s : Nat) : Prop := match ex with
  | [300, 0, _, _] => (1000000 ≤ a ∧ a < 1000000 + sS.length) ∧ R nx L (.ref (a + 1000000) :: S) m c s
  | [301, 0, _, _] => (1000000 ≤ a ∧ a < 1000000 + sS.length) ∧ R nx L (.int 0 :: S) m c s
  | [t, k, 0, _, _, _] => oS m a t ∧ R nx L (.int (mI m a k) :: S) m c s
  | [t, k, 1, _, _, _] => oS m a t ∧ R nx L (.long (mJ m a k) :: S) m c s
  | [t, k, 2, _, _, _] => oS m a t ∧ ∃ v, va_rf (mR m a k) = v ∧ R nx L (v :: S) m c s
  | [t, k, 3, _, _, _] => oS m a t ∧ R nx L (.int (mI m a k) :: S) m c s
  | _ => False
def zPut (R : Rt) (ex : List Nat) (nx : Nat) (L : List (Option Value)) (S : List Value) (m : Mm) (c s : Nat) : Prop := match ex with
  | [t, k, 0, _, _, _] => pI S fun x r => pA r fun a r => oS m a t ∧ R nx L r (uI m a k x) c s
  | [t, k, 1, _, _, _] => pJ S fun x r => pA r fun a r => oS m a t ∧ R nx L r (uJ m a k x) c s
  | [t, k, 2, _, _, _] => pA S fun b r => pA r fun a r => oS m a t ∧ R nx L r (uR m a k (some b)) c s
  | [t, k, 3, _, _, _] => pI S fun x r => pA r fun a r => oS m a t ∧ (x = 0 ∨ x = 1) ∧ R nx L r (uI m a k x) c s
  | _ => False
/-- calls: [0, method, parameters, cells, slots, receiver's class, nest, ..] of an object, [1, ..] static, [2, ..] a constructor, [3 ..] Object's, [4 ..] max, [5 ..] min, [6 ..] arraycopy -/
def zCall (d mc ms : Nat) (R : Rt) (ex : List Nat) (nx : Nat) (L : List (Option Value)) (S : List Value) (m : Mm) (c s : Nat) : Prop := match ex with
  | [0, k, n, mc', ms', t, _, _, _] => spl (n + 1) S [] fun as r => (1 ≤ d ∧ csum r ≤ 8 ∧ c + mc' ≤ mc ∧ s + ms' ≤ ms) ∧ hd? as (fun a => oS m a t) ∧ Cc (d - 1) mc' ms' k as m fun v m' => R nx L (v.toList ++ r) m' (c + mc') (s + ms')
  | [7, k, n, mc', ms', _, _] => spl (n + 1) S [] fun as r => (1 ≤ d ∧ csum r ≤ 8 ∧ c + mc' ≤ mc ∧ s + ms' ≤ ms) ∧ hd? as (fun a => 1000000 ≤ a ∧ a < 1000000 + sS.length) ∧ Cc (d - 1) mc' ms' k as m fun v m' => R nx L (v.toList ++ r) m' (c + mc') (s + ms')
  | [1, k, n, mc', ms', _, _, _] => spl n S [] fun as r => (1 ≤ d ∧ csum r ≤ 8 ∧ c + mc' ≤ mc ∧ s + ms' ≤ ms) ∧ Cc (d - 1) mc' ms' k as m fun v m' => R nx L (v.toList ++ r) m' (c + mc') (s + ms')
  | [2, k, n, mc', ms', _, _, _] => spl (n + 1) S [] fun as r => (1 ≤ d ∧ csum r ≤ 8 ∧ c + mc' ≤ mc ∧ s + ms' ≤ ms) ∧ hd? as (fun _ => True) ∧ Cc (d - 1) mc' ms' k as m fun v m' => R nx L (v.toList ++ r) m' (c + mc') (s + ms')
  | [3, _, _] => pA S fun _ r => (1 ≤ d ∧ csum r ≤ 8) ∧ R nx L r m c s
  | [4, _, _] => pI S fun y r => pI r fun x r => (1 ≤ d ∧ csum r ≤ 8 ∧ c ≤ mc ∧ s ≤ ms) ∧ R nx L (.int (if x < y then y else x) :: r) m c s
  | [5, _, _] => pI S fun y r => pI r fun x r => (1 ≤ d ∧ csum r ≤ 8 ∧ c ≤ mc ∧ s ≤ ms) ∧ R nx L (.int (if y < x then y else x) :: r) m c s
  | [6, _, _] => pI S fun n r => pI r fun dp r => pA r fun b r => pI r fun sp r => pA r fun a r => (1 ≤ d ∧ csum r ≤ 8) ∧ (oS m a 100 ∧ oS m b 100) ∧ (¬ sp < 0 ∧ ¬ dp < 0 ∧ ¬ n < 0 ∧ sp.toNatClampNeg + n.toNatClampNeg ≤ (mS m a).2 ∧ dp.toNatClampNeg + n.toNatClampNeg ≤ (mS m b).2) ∧ R nx L r (rI m b (va_cpy (mI m a) (mI m b) sp.toNatClampNeg dp.toNatClampNeg n.toNatClampNeg)) c s
  | _ => False
def zRet (rt : Option FieldType) (x : Int32) : Prop := match rt with
  | some .int => True
  | some .boolean => x = 0 ∨ x = 1
  | some .byte => narrow .byte (.int x) = .int x
  | some .char => narrow .char (.int x) = .int x
  | _ => False
def zx (sc : Nat × (Nat → Int32)) (d mc ms : Nat) (rt : Option FieldType) (R : Rt) (op : Instr) (ex : List Nat) (nx : Nat) (L : List (Option Value)) (S : List Value) (m : Mm) (c s : Nat) (Q : Option Value → Mm → Prop) : Prop := match op with
  | .iconst _ => kc ex fun v => R nx L (v :: S) m c s
  | .bipush _ => kc ex fun v => R nx L (v :: S) m c s
  | .sipush _ => kc ex fun v => R nx L (v :: S) m c s
  | .lconst _ => kc ex fun v => R nx L (v :: S) m c s
  | .ldc _ => kc ex fun v => R nx L (v :: S) m c s
  | .ldc_w _ => kc ex fun v => R nx L (v :: S) m c s
  | .ldc2_w _ => kc ex fun v => R nx L (v :: S) m c s
  | .iload_n k => gI L k.val fun x => R nx L (.int x :: S) m c s
  | .iload k => gI L k fun x => R nx L (.int x :: S) m c s
  | .lload_n k => gJ L k.val fun x => R nx L (.long x :: S) m c s
  | .lload k => gJ L k fun x => R nx L (.long x :: S) m c s
  | .aload_n k => gA L k.val fun x => R nx L (.ref x :: S) m c s
  | .aload k => gA L k fun x => R nx L (.ref x :: S) m c s
  | .istore_n k => pI S fun x r => R nx (st1 L k.val (.int x)) r m c s
  | .istore k => pI S fun x r => R nx (st1 L k (.int x)) r m c s
  | .lstore_n k => pJ S fun x r => R nx (st2 L k.val (.long x)) r m c s
  | .lstore k => pJ S fun x r => R nx (st2 L k (.long x)) r m c s
  | .astore_n k => pA S fun x r => R nx (st1 L k.val (.ref x)) r m c s
  | .astore k => pA S fun x r => R nx (st1 L k (.ref x)) r m c s
  | .iinc k _ => gI L k fun x => ki ex x fun y => R nx (st1 L k (.int y)) S m c s
  | .iadd => pI S fun y r => pI r fun x r => R nx L (.int (x + y) :: r) m c s
  | .isub => pI S fun y r => pI r fun x r => R nx L (.int (x - y) :: r) m c s
  | .imul => pI S fun y r => pI r fun x r => R nx L (.int (x * y) :: r) m c s
  | .idiv => pI S fun y r => pI r fun x r => ¬ y = 0 ∧ R nx L (.int (x / y) :: r) m c s
  | .irem => pI S fun y r => pI r fun x r => ¬ y = 0 ∧ R nx L (.int (x - x / y * y) :: r) m c s
  | .iand => pI S fun y r => pI r fun x r => R nx L (.int (x &&& y) :: r) m c s
  | .ior => pI S fun y r => pI r fun x r => R nx L (.int (x ||| y) :: r) m c s
  | .ixor => pI S fun y r => pI r fun x r => R nx L (.int (x ^^^ y) :: r) m c s
  | .ishl => pI S fun y r => pI r fun x r => R nx L (.int (x <<< (y &&& 31)) :: r) m c s
  | .ishr => pI S fun y r => pI r fun x r => R nx L (.int (x >>> (y &&& 31)) :: r) m c s
  | .iushr => pI S fun y r => pI r fun x r => R nx L (.int (x.toUInt32 >>> (y.toUInt32 &&& Int32.toUInt32 31)).toInt32 :: r) m c s
  | .ladd => pJ S fun y r => pJ r fun x r => R nx L (.long (x + y) :: r) m c s
  | .lmul => pJ S fun y r => pJ r fun x r => R nx L (.long (x * y) :: r) m c s
  | .lrem => pJ S fun y r => pJ r fun x r => ¬ y = 0 ∧ R nx L (.long (x - x / y * y) :: r) m c s
  | .lcmp => pJ S fun y r => pJ r fun x r => R nx L (.int (lg_cmp x y) :: r) m c s
  | .i2l => pI S fun x r => R nx L (.long x.toInt64 :: r) m c s
  | .l2i => pJ S fun x r => R nx L (.int x.toInt32 :: r) m c s
  | .i2b => pI S fun x r => R nx L (.int x.toInt8.toInt32 :: r) m c s
  | .i2c => pI S fun x r => R nx L (.int (x.toUInt32 % 65536).toInt32 :: r) m c s
  | .dup => match S with
    | v :: r => v.category = 1 ∧ R nx L (v :: v :: r) m c s
    | _ => False
  | .dup2 => match S with
    | v :: w :: r => (v.category = 1 ∧ w.category = 1) ∧ R nx L (v :: w :: v :: w :: r) m c s
    | _ => False
  | .pop => match S with
    | v :: r => v.category = 1 ∧ R nx L r m c s
    | _ => False
  | .ifCond .eq _ => pI S fun x r => (x = 0 → R (t0 ex) L r m c s) ∧ (¬ x = 0 → R nx L r m c s)
  | .ifCond .ne _ => pI S fun x r => (¬ x = 0 → R (t0 ex) L r m c s) ∧ (x = 0 → R nx L r m c s)
  | .ifCond .lt _ => pI S fun x r => (x < 0 → R (t0 ex) L r m c s) ∧ (¬ x < 0 → R nx L r m c s)
  | .ifCond .ge _ => pI S fun x r => (0 ≤ x → R (t0 ex) L r m c s) ∧ (¬ 0 ≤ x → R nx L r m c s)
  | .ifCond .gt _ => pI S fun x r => (0 < x → R (t0 ex) L r m c s) ∧ (¬ 0 < x → R nx L r m c s)
  | .ifCond .le _ => pI S fun x r => (x ≤ 0 → R (t0 ex) L r m c s) ∧ (¬ x ≤ 0 → R nx L r m c s)
  | .if_icmp .eq _ => pI S fun y r => pI r fun x r => (x = y → R (t0 ex) L r m c s) ∧ (¬ x = y → R nx L r m c s)
  | .if_icmp .ne _ => pI S fun y r => pI r fun x r => (¬ x = y → R (t0 ex) L r m c s) ∧ (x = y → R nx L r m c s)
  | .if_icmp .lt _ => pI S fun y r => pI r fun x r => (x < y → R (t0 ex) L r m c s) ∧ (¬ x < y → R nx L r m c s)
  | .if_icmp .ge _ => pI S fun y r => pI r fun x r => (y ≤ x → R (t0 ex) L r m c s) ∧ (¬ y ≤ x → R nx L r m c s)
  | .if_icmp .gt _ => pI S fun y r => pI r fun x r => (y < x → R (t0 ex) L r m c s) ∧ (¬ y < x → R nx L r m c s)
  | .if_icmp .le _ => pI S fun y r => pI r fun x r => (x ≤ y → R (t0 ex) L r m c s) ∧ (¬ x ≤ y → R nx L r m c s)
  | .ifnull _ => match S with
    | .null :: r => R (t0 ex) L r m c s
    | .ref _ :: r => R nx L r m c s
    | _ => False
  | .ifnonnull _ => match S with
    | .null :: r => R nx L r m c s
    | .ref _ :: r => R (t0 ex) L r m c s
    | _ => False
  | .goto _ => R (t0 ex) L S m c s
  | .tableswitch _ _ _ _ => pI S fun x r => (x.toInt < 0 ∨ ((ex.length - 1 : Nat) : Int) ≤ x.toInt → R (t0 ex) L r m c s) ∧ swl (fun t => R t L r m c s) ex.tail 0 x
  | .getfield _ => pA S fun a r => zGet R ex nx L a r m c s
  | .putfield _ => zPut R ex nx L S m c s
  | .getstatic _ => match ex with
    | 0 :: _ => R nx L (.ref 3000001 :: S) m c s
    | 1 :: _ => R nx L (.int 1 :: S) m c s
    | 2 :: _ => R nx L (.null :: S) m c s ∧ R nx L (.ref 3000002 :: S) m c s
    | _ => False
  | .iaload => pI S fun x r => pA r fun a r => match ex with
    | [0] => (oS m a 100 ∧ vp_in x (mS m a).2) ∧ R nx L (.int (mI m a x.toNatClampNeg) :: r) m c s
    | [1] => (a = 3000000 ∧ vp_in x sc.1) ∧ R nx L (.int (sc.2 x.toNatClampNeg) :: r) m c s
    | [2] => (a = 3000001 ∧ vp_in x roomL.length) ∧ R nx L (.int (roomL.getD x.toNatClampNeg 0) :: r) m c s
    | _ => False
  | .baload => pI S fun x r => pA r fun a r => match ex with
    | [0] => (oS m a 101 ∧ vp_in x (mS m a).2) ∧ R nx L (.int (mI m a x.toNatClampNeg) :: r) m c s
    | [1] => (oS m a 102 ∧ vp_in x (mS m a).2) ∧ R nx L (.int (mI m a x.toNatClampNeg) :: r) m c s
    | [2] => (2000000 ≤ a ∧ a < 2000000 + sS.length ∧ vp_in x (sBy (a - 2000000)).length) ∧ R nx L (.int ((sBy (a - 2000000)).getD x.toNatClampNeg 0) :: r) m c s
    | _ => False
  | .laload => pI S fun x r => pA r fun a r => (oS m a 103 ∧ vp_in x (mS m a).2) ∧ R nx L (.long (mJ m a x.toNatClampNeg) :: r) m c s
  | .aaload => pI S fun x r => pA r fun a r => (oS m a 104 ∧ vp_in x (mS m a).2) ∧ ∃ v, va_rf (mR m a x.toNatClampNeg) = v ∧ R nx L (v :: r) m c s
  | .iastore => pI S fun y r => pI r fun x r => pA r fun a r => (oS m a 100 ∧ vp_in x (mS m a).2) ∧ R nx L r (uI m a x.toNatClampNeg y) c s
  | .bastore => pI S fun y r => pI r fun x r => pA r fun a r => match ex with
    | [0] => (oS m a 101 ∧ vp_in x (mS m a).2) ∧ R nx L r (uI m a x.toNatClampNeg (vp_nar .byte y)) c s
    | [1] => (oS m a 102 ∧ vp_in x (mS m a).2) ∧ R nx L r (uI m a x.toNatClampNeg (vp_nar .boolean y)) c s
    | _ => False
  | .lastore => pJ S fun y r => pI r fun x r => pA r fun a r => (oS m a 103 ∧ vp_in x (mS m a).2) ∧ R nx L r (uJ m a x.toNatClampNeg y) c s
  | .aastore => pA S fun b r => pI r fun x r => pA r fun a r => (oS m a 104 ∧ vp_in x (mS m a).2 ∧ oS m b 6) ∧ R nx L r (uR m a x.toNatClampNeg (some b)) c s
  | .arraylength => pA S fun a r => match ex with
    | [0, t] => oS m a t ∧ R nx L (.int (nI (mS m a).2) :: r) m c s
    | [1] => a = 3000000 ∧ R nx L (.int (nI sc.1) :: r) m c s
    | [2] => a = 3000001 ∧ R nx L (.int (nI roomL.length) :: r) m c s
    | [3] => (2000000 ≤ a ∧ a < 2000000 + sS.length) ∧ R nx L (.int (nI (sBy (a - 2000000)).length) :: r) m c s
    | _ => False
  | .newarray _ => pI S fun x r => (¬ x < 0 ∧ x.toNatClampNeg ≤ 10000 ∧ c + 1 ≤ mc ∧ s + x.toNatClampNeg ≤ ms ∧ mZ m < 999999) ∧ R nx L (.ref (mZ m) :: r) (nA m (t0 ex) x.toNatClampNeg) (c + 1) (s + x.toNatClampNeg)
  | .anewarray _ => pI S fun x r => (¬ x < 0 ∧ x.toNatClampNeg ≤ 10000 ∧ c + 1 ≤ mc ∧ s + x.toNatClampNeg ≤ ms ∧ mZ m < 999999) ∧ R nx L (.ref (mZ m) :: r) (nA m 104 x.toNatClampNeg) (c + 1) (s + x.toNatClampNeg)
  | .new _ => match ex with
    | t :: n :: _ => (c + 1 ≤ mc ∧ s + n ≤ ms ∧ mZ m < 999999) ∧ R nx L (.ref (mZ m) :: S) (nA m t n) (c + 1) (s + n)
    | _ => False
  | .invokevirtual _ => zCall d mc ms R ex nx L S m c s
  | .invokespecial _ => zCall d mc ms R ex nx L S m c s
  | .invokestatic _ => zCall d mc ms R ex nx L S m c s
  | .ireturn => pI S fun x r => (r = [] ∧ zRet rt x ∧ c ≤ mc ∧ s ≤ ms) ∧ Q (some (.int x)) m
  | .lreturn => pJ S fun x r => (r = [] ∧ rt = some .long ∧ c ≤ mc ∧ s ≤ ms) ∧ Q (some (.long x)) m
  | .areturn => pA S fun x r => (r = [] ∧ c ≤ mc ∧ s ≤ ms) ∧ Q (some (.ref x)) m
  | .return_ => (S = [] ∧ rt = none ∧ c ≤ mc ∧ s ≤ ms) ∧ Q none m
  | _ => False

set_option maxRecDepth 20000 in
theorem ggX4_noWide_X4_no : GoodIn wsX4_noWide wsX4_no := goodIn_r _ [6, 7, 8, 9, 10, 11, 12, 13, 14, 15, 16, 17, 18, 19, 20] rfl (by decide +kernel)
set_option maxRecDepth 20000 in
theorem gX4_noWide_X4_no : GoodIn wsX4_noWide (wsV RX4 36 RX4 yX4_no wsX4_no) := goodIn_app (goodIn_r _ [2, 3, 4, 5] rfl (by decide +kernel)) ggX4_noWide_X4_no
set_option maxRecDepth 20000 in
theorem ggX4_isSaying_X4_isIn : GoodIn wsX4_isSaying wsX4_isIn := goodIn_r _ [5] rfl (by decide +kernel)
set_option maxRecDepth 20000 in
theorem gX4_isSaying_X4_isIn : GoodIn wsX4_isSaying (va_wsS RX4 40 yX4_isIn wsX4_isIn) := goodIn_app (goodIn_r _ [2, 3, 4] rfl (by decide +kernel)) ggX4_isSaying_X4_isIn
set_option maxRecDepth 20000 in
theorem ggX4_isWoman_X4_isIn : GoodIn wsX4_isWoman wsX4_isIn := goodIn_r _ [4] rfl (by decide +kernel)
set_option maxRecDepth 20000 in
theorem gX4_isWoman_X4_isIn : GoodIn wsX4_isWoman (va_wsS RX4 40 yX4_isIn wsX4_isIn) := goodIn_app (goodIn_r _ [1, 2, 3] rfl (by decide +kernel)) ggX4_isWoman_X4_isIn
set_option maxRecDepth 20000 in
theorem ggX4_fresh_X4_of : GoodIn wsX4_fresh wsX4_of := goodIn_r _ [4] rfl (by decide +kernel)
set_option maxRecDepth 20000 in
theorem gX4_fresh_X4_of : GoodIn wsX4_fresh (va_wsS RX4 44 yX4_of wsX4_of) := goodIn_app (goodIn_r _ [1, 2, 3] rfl (by decide +kernel)) ggX4_fresh_X4_of
set_option maxRecDepth 20000 in
theorem ggX4_softOf_X4_fresh : GoodIn wsX4_softOf wsX4_fresh := goodIn_r _ [4, 5, 6, 3, 7] rfl (by decide +kernel)
set_option maxRecDepth 20000 in
theorem gX4_softOf_X4_fresh : GoodIn wsX4_softOf (va_wsS RX4 48 yX4_fresh wsX4_fresh) := goodIn_app (goodIn_r _ [1, 2, 3] rfl (by decide +kernel)) ggX4_softOf_X4_fresh
set_option maxRecDepth 20000 in
theorem ggX4_softOf_X4_of : GoodIn wsX4_softOf wsX4_of := goodIn_r _ [7] rfl (by decide +kernel)
set_option maxRecDepth 20000 in
theorem gX4_softOf_X4_of : GoodIn wsX4_softOf (va_wsS RX4 44 yX4_of wsX4_of) := goodIn_app (goodIn_r _ [5, 6, 3] rfl (by decide +kernel)) ggX4_softOf_X4_of
set_option maxRecDepth 20000 in
theorem ggX4_bindsOf_X4_fresh : GoodIn wsX4_bindsOf wsX4_fresh := goodIn_r _ [4, 5, 6, 3, 7] rfl (by decide +kernel)
set_option maxRecDepth 20000 in
theorem gX4_bindsOf_X4_fresh : GoodIn wsX4_bindsOf (va_wsS RX4 48 yX4_fresh wsX4_fresh) := goodIn_app (goodIn_r _ [1, 2, 3] rfl (by decide +kernel)) ggX4_bindsOf_X4_fresh
set_option maxRecDepth 20000 in
theorem ggX4_bindsOf_X4_of : GoodIn wsX4_bindsOf wsX4_of := goodIn_r _ [7] rfl (by decide +kernel)
set_option maxRecDepth 20000 in
theorem gX4_bindsOf_X4_of : GoodIn wsX4_bindsOf (va_wsS RX4 44 yX4_of wsX4_of) := goodIn_app (goodIn_r _ [5, 6, 3] rfl (by decide +kernel)) ggX4_bindsOf_X4_of
set_option maxRecDepth 20000 in
theorem ggX4_weighsOf_X4_of : GoodIn wsX4_weighsOf wsX4_of := goodIn_r _ [4] rfl (by decide +kernel)
set_option maxRecDepth 20000 in
theorem gX4_weighsOf_X4_of : GoodIn wsX4_weighsOf (va_wsS RX4 44 yX4_of wsX4_of) := goodIn_app (goodIn_r _ [1, 2, 3] rfl (by decide +kernel)) ggX4_weighsOf_X4_of
set_option maxRecDepth 20000 in
theorem ggX4_weighsOf_X4_fresh : GoodIn wsX4_weighsOf wsX4_fresh := goodIn_r _ [7, 1, 2, 3, 4] rfl (by decide +kernel)
set_option maxRecDepth 20000 in
theorem gX4_weighsOf_X4_fresh : GoodIn wsX4_weighsOf (va_wsS RX4 48 yX4_fresh wsX4_fresh) := goodIn_app (goodIn_r _ [5, 6, 3] rfl (by decide +kernel)) ggX4_weighsOf_X4_fresh
set_option maxRecDepth 20000 in
theorem ggX4_sumOf_X4_has : GoodIn wsX4_sumOf wsX4_has := goodIn_r _ [4] rfl (by decide +kernel)
set_option maxRecDepth 20000 in
theorem gX4_sumOf_X4_has : GoodIn wsX4_sumOf (va_wsS RX4 52 yX4_has wsX4_has) := goodIn_app (goodIn_r _ [1, 2, 3] rfl (by decide +kernel)) ggX4_sumOf_X4_has
set_option maxRecDepth 20000 in
theorem ggX4_sumOf_X4_softOf : GoodIn wsX4_sumOf wsX4_softOf := goodIn_r _ [7, 8, 9, 3, 10, 11, 12, 13] rfl (by decide +kernel)
set_option maxRecDepth 20000 in
theorem gX4_sumOf_X4_softOf : GoodIn wsX4_sumOf (va_wsS RX4 56 yX4_softOf wsX4_softOf) := goodIn_app (goodIn_r _ [5, 6, 3] rfl (by decide +kernel)) ggX4_sumOf_X4_softOf
set_option maxRecDepth 20000 in
theorem ggX4_sumOf_X4_bindsOf : GoodIn wsX4_sumOf wsX4_bindsOf := goodIn_r _ [16, 8, 9, 3, 10, 11, 12, 13] rfl (by decide +kernel)
set_option maxRecDepth 20000 in
theorem gX4_sumOf_X4_bindsOf : GoodIn wsX4_sumOf (va_wsS RX4 59 yX4_bindsOf wsX4_bindsOf) := goodIn_app (goodIn_r _ [14, 15, 3] rfl (by decide +kernel)) ggX4_sumOf_X4_bindsOf
set_option maxRecDepth 20000 in
theorem ggX4_sumOf_X4_weighsOf : GoodIn wsX4_sumOf wsX4_weighsOf := goodIn_r _ [19, 11, 12, 3, 13, 8, 9, 10] rfl (by decide +kernel)
set_option maxRecDepth 20000 in
theorem gX4_sumOf_X4_weighsOf : GoodIn wsX4_sumOf (va_wsS RX4 62 yX4_weighsOf wsX4_weighsOf) := goodIn_app (goodIn_r _ [17, 18, 3] rfl (by decide +kernel)) ggX4_sumOf_X4_weighsOf
set_option maxRecDepth 20000 in
theorem ggX4_ofHer_X4_of : GoodIn wsX4_ofHer wsX4_of := goodIn_r _ [4] rfl (by decide +kernel)
set_option maxRecDepth 20000 in
theorem gX4_ofHer_X4_of : GoodIn wsX4_ofHer (va_wsS RX4 44 yX4_of wsX4_of) := goodIn_app (goodIn_r _ [1, 2, 3] rfl (by decide +kernel)) ggX4_ofHer_X4_of
set_option maxRecDepth 20000 in
theorem ggX4_nestIn_X4_ofHer : GoodIn wsX4_nestIn wsX4_ofHer := goodIn_r _ [4, 5, 6, 3, 7] rfl (by decide +kernel)
set_option maxRecDepth 20000 in
theorem gX4_nestIn_X4_ofHer : GoodIn wsX4_nestIn (va_wsS RX4 65 yX4_ofHer wsX4_ofHer) := goodIn_app (goodIn_r _ [1, 2, 3] rfl (by decide +kernel)) ggX4_nestIn_X4_ofHer
set_option maxRecDepth 20000 in
theorem ggX4_holdsSet_X4_sumOf : GoodIn wsX4_holdsSet wsX4_sumOf := goodIn_r _ [4, 5, 6, 3, 7, 8, 9, 10, 11, 12, 13, 14, 15, 16, 17, 18, 19, 20, 21, 22] rfl (by decide +kernel)
set_option maxRecDepth 20000 in
theorem gX4_holdsSet_X4_sumOf : GoodIn wsX4_holdsSet (va_wsS RX4 69 yX4_sumOf wsX4_sumOf) := goodIn_app (goodIn_r _ [1, 2, 3] rfl (by decide +kernel)) ggX4_holdsSet_X4_sumOf
set_option maxRecDepth 20000 in
theorem ggX4_fallsIn_X4_nestIn : GoodIn wsX4_fallsIn wsX4_nestIn := goodIn_r _ [4, 5, 6, 3, 7, 8, 9, 10] rfl (by decide +kernel)
set_option maxRecDepth 20000 in
theorem gX4_fallsIn_X4_nestIn : GoodIn wsX4_fallsIn (va_wsS RX4 72 yX4_nestIn wsX4_nestIn) := goodIn_app (goodIn_r _ [1, 2, 3] rfl (by decide +kernel)) ggX4_fallsIn_X4_nestIn
set_option maxRecDepth 20000 in
theorem ggX4_fallsIn_X4_has : GoodIn wsX4_fallsIn wsX4_has := goodIn_r _ [13] rfl (by decide +kernel)
set_option maxRecDepth 20000 in
theorem gX4_fallsIn_X4_has : GoodIn wsX4_fallsIn (va_wsS RX4 52 yX4_has wsX4_has) := goodIn_app (goodIn_r _ [11, 12, 3] rfl (by decide +kernel)) ggX4_fallsIn_X4_has
set_option maxRecDepth 20000 in
theorem ggX4_fallsIn_X4_of : GoodIn wsX4_fallsIn wsX4_of := goodIn_r _ [10] rfl (by decide +kernel)
set_option maxRecDepth 20000 in
theorem gX4_fallsIn_X4_of : GoodIn wsX4_fallsIn (va_wsS RX4 44 yX4_of wsX4_of) := goodIn_app (goodIn_r _ [8, 9, 3] rfl (by decide +kernel)) ggX4_fallsIn_X4_of
set_option maxRecDepth 20000 in
theorem ggX4_fallsIn_X4_least : GoodIn wsX4_fallsIn wsX4_least := goodIn_r _ [16] rfl (by decide +kernel)
set_option maxRecDepth 20000 in
theorem gX4_fallsIn_X4_least : GoodIn wsX4_fallsIn (va_wsS RX4 75 yX4_least wsX4_least) := goodIn_app (goodIn_r _ [14, 15, 3] rfl (by decide +kernel)) ggX4_fallsIn_X4_least
set_option maxRecDepth 20000 in
theorem ggX4_wearsIn_X4_of : GoodIn wsX4_wearsIn wsX4_of := goodIn_r _ [4] rfl (by decide +kernel)
set_option maxRecDepth 20000 in
theorem gX4_wearsIn_X4_of : GoodIn wsX4_wearsIn (va_wsS RX4 44 yX4_of wsX4_of) := goodIn_app (goodIn_r _ [1, 2, 3] rfl (by decide +kernel)) ggX4_wearsIn_X4_of
set_option maxRecDepth 20000 in
theorem ggX4_wearsIn_X4_least : GoodIn wsX4_wearsIn wsX4_least := goodIn_r _ [7] rfl (by decide +kernel)
set_option maxRecDepth 20000 in
theorem gX4_wearsIn_X4_least : GoodIn wsX4_wearsIn (va_wsS RX4 75 yX4_least wsX4_least) := goodIn_app (goodIn_r _ [5, 6, 3] rfl (by decide +kernel)) ggX4_wearsIn_X4_least
set_option maxRecDepth 20000 in
theorem ggX4_leastSaid_X4_of : GoodIn wsX4_leastSaid wsX4_of := goodIn_r _ [4] rfl (by decide +kernel)
set_option maxRecDepth 20000 in
theorem gX4_leastSaid_X4_of : GoodIn wsX4_leastSaid (va_wsS RX4 44 yX4_of wsX4_of) := goodIn_app (goodIn_r _ [1, 2, 3] rfl (by decide +kernel)) ggX4_leastSaid_X4_of
set_option maxRecDepth 20000 in
theorem ggX4_day_X4_wearsIn : GoodIn wsX4_day wsX4_wearsIn := goodIn_r _ [4, 5, 6, 3, 7, 8, 9, 10] rfl (by decide +kernel)
set_option maxRecDepth 20000 in
theorem gX4_day_X4_wearsIn : GoodIn wsX4_day (va_wsS RX4 78 yX4_wearsIn wsX4_wearsIn) := goodIn_app (goodIn_r _ [1, 2, 3] rfl (by decide +kernel)) ggX4_day_X4_wearsIn
set_option maxRecDepth 20000 in
theorem ggX4_day_X4_leastSaid : GoodIn wsX4_day wsX4_leastSaid := goodIn_r _ [13, 5, 6, 3, 7] rfl (by decide +kernel)
set_option maxRecDepth 20000 in
theorem gX4_day_X4_leastSaid : GoodIn wsX4_day (va_wsS RX4 82 yX4_leastSaid wsX4_leastSaid) := goodIn_app (goodIn_r _ [11, 12, 3] rfl (by decide +kernel)) ggX4_day_X4_leastSaid
set_option maxRecDepth 20000 in
theorem ggX4_day_X4_of : GoodIn wsX4_day wsX4_of := goodIn_r _ [7] rfl (by decide +kernel)
set_option maxRecDepth 20000 in
theorem gX4_day_X4_of : GoodIn wsX4_day (va_wsS RX4 44 yX4_of wsX4_of) := goodIn_app (goodIn_r _ [5, 6, 3] rfl (by decide +kernel)) ggX4_day_X4_of
set_option maxRecDepth 20000 in
theorem ggX4_day_X4_nestIn : GoodIn wsX4_day wsX4_nestIn := goodIn_r _ [16, 17, 18, 3, 19, 5, 6, 7] rfl (by decide +kernel)
set_option maxRecDepth 20000 in
theorem gX4_day_X4_nestIn : GoodIn wsX4_day (va_wsS RX4 72 yX4_nestIn wsX4_nestIn) := goodIn_app (goodIn_r _ [14, 15, 3] rfl (by decide +kernel)) ggX4_day_X4_nestIn
set_option maxRecDepth 20000 in
theorem ggX4_day_X4_holdsSet : GoodIn wsX4_day wsX4_holdsSet := goodIn_r _ [22, 23, 24, 3, 25, 26, 27, 28, 29, 30, 31, 32, 33, 34, 5, 6, 7, 35, 36, 37, 38, 39, 40] rfl (by decide +kernel)
set_option maxRecDepth 20000 in
theorem gX4_day_X4_holdsSet : GoodIn wsX4_day (va_wsS RX4 85 yX4_holdsSet wsX4_holdsSet) := goodIn_app (goodIn_r _ [20, 21, 3] rfl (by decide +kernel)) ggX4_day_X4_holdsSet
set_option maxRecDepth 20000 in
theorem ggX4_day_X4_fallsIn : GoodIn wsX4_day wsX4_fallsIn := goodIn_r _ [43, 14, 15, 3, 16, 17, 18, 19, 5, 6, 7, 26, 27, 28, 8, 9, 10] rfl (by decide +kernel)
set_option maxRecDepth 20000 in
theorem gX4_day_X4_fallsIn : GoodIn wsX4_day (va_wsS RX4 89 yX4_fallsIn wsX4_fallsIn) := goodIn_app (goodIn_r _ [41, 42, 3] rfl (by decide +kernel)) ggX4_day_X4_fallsIn
set_option maxRecDepth 20000 in
theorem ggX4_daysOn_X4_day : GoodIn wsX4_daysOn wsX4_day := goodIn_r _ [4, 5, 6, 3, 7, 8, 9, 10, 11, 12, 13, 14, 15, 16, 17, 18, 19, 20, 21, 22, 23, 24, 25, 26, 27, 28, 29, 30, 31, 32, 33, 34, 35, 36, 37, 38, 39, 40, 41, 42, 43, 44, 45, 46] rfl (by decide +kernel)
set_option maxRecDepth 20000 in
theorem gX4_daysOn_X4_day : GoodIn wsX4_daysOn (va_wsS RX4 92 yX4_day wsX4_day) := goodIn_app (goodIn_r _ [1, 2, 3] rfl (by decide +kernel)) ggX4_daysOn_X4_day
set_option maxRecDepth 20000 in
theorem ggX4_daysOn_X4_bits : GoodIn wsX4_daysOn wsX4_bits := goodIn_r _ [49] rfl (by decide +kernel)
set_option maxRecDepth 20000 in
theorem gX4_daysOn_X4_bits : GoodIn wsX4_daysOn (va_wsS RX4 96 yX4_bits wsX4_bits) := goodIn_app (goodIn_r _ [47, 48, 3] rfl (by decide +kernel)) ggX4_daysOn_X4_bits
set_option maxRecDepth 20000 in
theorem ggX4_inNests_X4_of : GoodIn wsX4_inNests wsX4_of := goodIn_r _ [4] rfl (by decide +kernel)
set_option maxRecDepth 20000 in
theorem gX4_inNests_X4_of : GoodIn wsX4_inNests (va_wsS RX4 44 yX4_of wsX4_of) := goodIn_app (goodIn_r _ [1, 2, 3] rfl (by decide +kernel)) ggX4_inNests_X4_of
set_option maxRecDepth 20000 in
theorem ggX4_letter_X4_no : GoodIn wsX4_letter wsX4_no := goodIn_r _ [7, 8, 9, 10, 11, 12, 13, 14, 15, 16, 17, 18, 19, 20, 21] rfl (by decide +kernel)
set_option maxRecDepth 20000 in
theorem gX4_letter_X4_no : GoodIn wsX4_letter (wsV RX4 36 RX4 yX4_no wsX4_no) := goodIn_app (goodIn_r _ [3, 4, 5, 6] rfl (by decide +kernel)) ggX4_letter_X4_no
set_option maxRecDepth 20000 in
theorem ggX4_readsNumber_X4_here : GoodIn wsX4_readsNumber wsX4_here := goodIn_r _ [7, 2, 8, 9, 13, 14, 15, 16, 17, 18, 19, 20, 21, 22, 23, 24, 25] rfl (by decide +kernel)
set_option maxRecDepth 20000 in
theorem gX4_readsNumber_X4_here : GoodIn wsX4_readsNumber (wsV RX4 106 RX4 yX4_here wsX4_here) := goodIn_app (goodIn_r _ [3, 4, 5, 6] rfl (by decide +kernel)) ggX4_readsNumber_X4_here
set_option maxRecDepth 20000 in
theorem ggX4_readsNumber_X4_isIn : GoodIn wsX4_readsNumber wsX4_isIn := goodIn_r _ [12] rfl (by decide +kernel)
set_option maxRecDepth 20000 in
theorem gX4_readsNumber_X4_isIn : GoodIn wsX4_readsNumber (va_wsS RX4 40 yX4_isIn wsX4_isIn) := goodIn_app (goodIn_r _ [10, 11, 6] rfl (by decide +kernel)) ggX4_readsNumber_X4_isIn
set_option maxRecDepth 20000 in
theorem ggX4_readsKind_X4_here : GoodIn wsX4_readsKind wsX4_here := goodIn_r _ [7, 2, 8, 9, 13, 14, 15, 16, 17, 18, 19, 20, 21, 22, 23, 24, 25] rfl (by decide +kernel)
set_option maxRecDepth 20000 in
theorem gX4_readsKind_X4_here : GoodIn wsX4_readsKind (wsV RX4 106 RX4 yX4_here wsX4_here) := goodIn_app (goodIn_r _ [3, 4, 5, 6] rfl (by decide +kernel)) ggX4_readsKind_X4_here
set_option maxRecDepth 20000 in
theorem ggX4_readsKind_X4_kindBy : GoodIn wsX4_readsKind wsX4_kindBy := goodIn_r _ [12] rfl (by decide +kernel)
set_option maxRecDepth 20000 in
theorem gX4_readsKind_X4_kindBy : GoodIn wsX4_readsKind (va_wsS RX4 110 yX4_kindBy wsX4_kindBy) := goodIn_app (goodIn_r _ [10, 11, 6] rfl (by decide +kernel)) ggX4_readsKind_X4_kindBy
set_option maxRecDepth 20000 in
theorem ggX4_readsStatement_X4_here : GoodIn wsX4_readsStatement wsX4_here := goodIn_r _ [6, 1, 7, 8, 24, 25, 26, 27, 28, 29, 30, 31, 32, 33, 34, 35, 36] rfl (by decide +kernel)
set_option maxRecDepth 20000 in
theorem gX4_readsStatement_X4_here : GoodIn wsX4_readsStatement (wsV RX4 106 RX4 yX4_here wsX4_here) := goodIn_app (goodIn_r _ [2, 3, 4, 5] rfl (by decide +kernel)) ggX4_readsStatement_X4_here
set_option maxRecDepth 20000 in
theorem ggX4_readsStatement_X4_readsKind : GoodIn wsX4_readsStatement wsX4_readsKind := goodIn_r _ [12, 13, 1, 2, 3, 4, 5, 6, 7, 8, 14, 15, 16, 24, 25, 26, 27, 28, 29, 30, 31, 32, 33, 34, 35, 36] rfl (by decide +kernel)
set_option maxRecDepth 20000 in
theorem gX4_readsStatement_X4_readsKind : GoodIn wsX4_readsStatement (wsV RX4 113 RX4 yX4_readsKind wsX4_readsKind) := goodIn_app (goodIn_r _ [9, 10, 11, 5] rfl (by decide +kernel)) ggX4_readsStatement_X4_readsKind
set_option maxRecDepth 20000 in
theorem ggX4_readsStatement_X4_readsNumber : GoodIn wsX4_readsStatement wsX4_readsNumber := goodIn_r _ [20, 13, 1, 2, 3, 4, 5, 6, 7, 8, 21, 22, 23, 24, 25, 26, 27, 28, 29, 30, 31, 32, 33, 34, 35, 36] rfl (by decide +kernel)
set_option maxRecDepth 20000 in
theorem gX4_readsStatement_X4_readsNumber : GoodIn wsX4_readsStatement (wsV RX4 117 RX4 yX4_readsNumber wsX4_readsNumber) := goodIn_app (goodIn_r _ [17, 18, 19, 5] rfl (by decide +kernel)) ggX4_readsStatement_X4_readsNumber
set_option maxRecDepth 20000 in
theorem ggX4_adds_X4_of : GoodIn wsX4_adds wsX4_of := goodIn_r _ [4] rfl (by decide +kernel)
set_option maxRecDepth 20000 in
theorem gX4_adds_X4_of : GoodIn wsX4_adds (va_wsS RX4 44 yX4_of wsX4_of) := goodIn_app (goodIn_r _ [1, 2, 3] rfl (by decide +kernel)) ggX4_adds_X4_of
set_option maxRecDepth 20000 in
theorem ggX4_isDone_X4_isWoman : GoodIn wsX4_isDone wsX4_isWoman := goodIn_r _ [6, 7, 8, 5, 9] rfl (by decide +kernel)
set_option maxRecDepth 20000 in
theorem gX4_isDone_X4_isWoman : GoodIn wsX4_isDone (va_wsS RX4 120 yX4_isWoman wsX4_isWoman) := goodIn_app (goodIn_r _ [3, 4, 5] rfl (by decide +kernel)) ggX4_isDone_X4_isWoman
set_option maxRecDepth 20000 in
theorem ggX4_isDone_X4_adds : GoodIn wsX4_isDone wsX4_adds := goodIn_r _ [12, 13, 14, 5, 15] rfl (by decide +kernel)
set_option maxRecDepth 20000 in
theorem gX4_isDone_X4_adds : GoodIn wsX4_isDone (va_wsS RX4 124 yX4_adds wsX4_adds) := goodIn_app (goodIn_r _ [10, 11, 5] rfl (by decide +kernel)) ggX4_isDone_X4_adds
set_option maxRecDepth 20000 in
theorem ggX4_isDone_X4_isSaying : GoodIn wsX4_isDone wsX4_isSaying := goodIn_r _ [19, 2, 7, 8, 5, 9, 68, 69, 70, 71, 72, 73, 74, 75, 76, 77, 78, 79, 80] rfl (by decide +kernel)
set_option maxRecDepth 20000 in
theorem gX4_isDone_X4_isSaying : GoodIn wsX4_isDone (wsV RX4 128 RX4 yX4_isSaying wsX4_isSaying) := goodIn_app (goodIn_r _ [16, 17, 18, 5] rfl (by decide +kernel)) ggX4_isDone_X4_isSaying
set_option maxRecDepth 20000 in
theorem ggX4_isDone_X4_of : GoodIn wsX4_isDone wsX4_of := goodIn_r _ [15] rfl (by decide +kernel)
set_option maxRecDepth 20000 in
theorem gX4_isDone_X4_of : GoodIn wsX4_isDone (va_wsS RX4 44 yX4_of wsX4_of) := goodIn_app (goodIn_r _ [13, 14, 5] rfl (by decide +kernel)) ggX4_isDone_X4_of
set_option maxRecDepth 20000 in
theorem ggX4_isDone_X4_fallsIn : GoodIn wsX4_isDone wsX4_fallsIn := goodIn_r _ [22, 23, 24, 5, 25, 26, 27, 28, 13, 14, 15, 29, 30, 31, 32, 33, 34] rfl (by decide +kernel)
set_option maxRecDepth 20000 in
theorem gX4_isDone_X4_fallsIn : GoodIn wsX4_isDone (va_wsS RX4 89 yX4_fallsIn wsX4_fallsIn) := goodIn_app (goodIn_r _ [20, 21, 5] rfl (by decide +kernel)) ggX4_isDone_X4_fallsIn
set_option maxRecDepth 20000 in
theorem ggX4_isDone_X4_isIn : GoodIn wsX4_isDone wsX4_isIn := goodIn_r _ [9] rfl (by decide +kernel)
set_option maxRecDepth 20000 in
theorem gX4_isDone_X4_isIn : GoodIn wsX4_isDone (va_wsS RX4 40 yX4_isIn wsX4_isIn) := goodIn_app (goodIn_r _ [7, 8, 5] rfl (by decide +kernel)) ggX4_isDone_X4_isIn
set_option maxRecDepth 20000 in
theorem ggX4_isDone_X4_daysOn : GoodIn wsX4_isDone wsX4_daysOn := goodIn_r _ [37, 38, 39, 5, 40, 41, 42, 43, 13, 14, 15, 32, 33, 34, 44, 45, 46, 23, 24, 25, 26, 27, 28, 47, 48, 49, 50, 51, 52, 29, 30, 31, 53, 54, 55, 56, 57, 58, 59, 60, 61, 62, 63, 64, 20, 21, 22, 65, 66, 67] rfl (by decide +kernel)
set_option maxRecDepth 20000 in
theorem gX4_isDone_X4_daysOn : GoodIn wsX4_isDone (va_wsS RX4 131 yX4_daysOn wsX4_daysOn) := goodIn_app (goodIn_r _ [35, 36, 5] rfl (by decide +kernel)) ggX4_isDone_X4_daysOn
set_option maxRecDepth 20000 in
theorem ggX4_close_X4_readsStatement : GoodIn wsX4_close wsX4_readsStatement := goodIn_r _ [9, 1, 10, 11, 12, 8, 13, 2, 14, 15, 16, 17, 18, 19, 20, 21, 22, 23, 24, 25, 26, 27, 28, 29, 98, 99, 100, 101, 102, 103, 104, 105, 106, 107, 108, 109, 110] rfl (by decide +kernel)
set_option maxRecDepth 20000 in
theorem gX4_close_X4_readsStatement : GoodIn wsX4_close (wsV RX4 134 RX4 yX4_readsStatement wsX4_readsStatement) := goodIn_app (goodIn_r _ [5, 6, 7, 8] rfl (by decide +kernel)) ggX4_close_X4_readsStatement
set_option maxRecDepth 20000 in
theorem ggX4_close_X4_copies : GoodIn wsX4_close wsX4_copies := goodIn_r _ [32] rfl (by decide +kernel)
set_option maxRecDepth 20000 in
theorem gX4_close_X4_copies : GoodIn wsX4_close (va_wsS RX4 137 yX4_copies wsX4_copies) := goodIn_app (goodIn_r _ [30, 31, 8] rfl (by decide +kernel)) ggX4_close_X4_copies
set_option maxRecDepth 20000 in
theorem ggX4_close_X4_here : GoodIn wsX4_close wsX4_here := goodIn_r _ [13, 1, 2, 14, 98, 99, 100, 101, 102, 103, 104, 105, 106, 107, 108, 109, 110] rfl (by decide +kernel)
set_option maxRecDepth 20000 in
theorem gX4_close_X4_here : GoodIn wsX4_close (wsV RX4 106 RX4 yX4_here wsX4_here) := goodIn_app (goodIn_r _ [10, 11, 12, 8] rfl (by decide +kernel)) ggX4_close_X4_here
set_option maxRecDepth 20000 in
theorem ggX4_close_X4_isDone : GoodIn wsX4_close wsX4_isDone := goodIn_r _ [36, 19, 3, 37, 38, 8, 39, 27, 28, 29, 40, 41, 42, 43, 44, 45, 46, 47, 48, 49, 50, 51, 52, 53, 54, 55, 56, 57, 58, 59, 60, 61, 62, 63, 64, 65, 66, 67, 68, 69, 70, 71, 72, 73, 74, 75, 76, 77, 78, 79, 80, 81, 82, 83, 84, 85, 86, 87, 88, 89, 90, 91, 92, 93, 94, 95, 96, 97, 98, 99, 100, 101, 102, 103, 104, 105, 106, 107, 108, 109, 110] rfl (by decide +kernel)
set_option maxRecDepth 20000 in
theorem gX4_close_X4_isDone : GoodIn wsX4_close (wsV RX4 141 RX4 yX4_isDone wsX4_isDone) := goodIn_app (goodIn_r _ [33, 34, 35, 8] rfl (by decide +kernel)) ggX4_close_X4_isDone
set_option maxRecDepth 20000 in
theorem ggX4_saying_X4_isSaying : GoodIn wsX4_saying wsX4_isSaying := goodIn_r _ [6, 1, 7, 8, 5, 9, 36, 37, 38, 39, 40, 41, 42, 43, 44, 45, 46, 47, 48] rfl (by decide +kernel)
set_option maxRecDepth 20000 in
theorem gX4_saying_X4_isSaying : GoodIn wsX4_saying (wsV RX4 128 RX4 yX4_isSaying wsX4_isSaying) := goodIn_app (goodIn_r _ [2, 3, 4, 5] rfl (by decide +kernel)) ggX4_saying_X4_isSaying
set_option maxRecDepth 20000 in
theorem ggX4_saying_X4_no : GoodIn wsX4_saying wsX4_no := goodIn_r _ [13, 14, 36, 37, 38, 39, 40, 41, 42, 43, 44, 45, 46, 47, 48] rfl (by decide +kernel)
set_option maxRecDepth 20000 in
theorem gX4_saying_X4_no : GoodIn wsX4_saying (wsV RX4 36 RX4 yX4_no wsX4_no) := goodIn_app (goodIn_r _ [10, 11, 12, 5] rfl (by decide +kernel)) ggX4_saying_X4_no
set_option maxRecDepth 20000 in
theorem ggX4_saying_X4_isIn : GoodIn wsX4_saying wsX4_isIn := goodIn_r _ [9] rfl (by decide +kernel)
set_option maxRecDepth 20000 in
theorem gX4_saying_X4_isIn : GoodIn wsX4_saying (va_wsS RX4 40 yX4_isIn wsX4_isIn) := goodIn_app (goodIn_r _ [7, 8, 5] rfl (by decide +kernel)) ggX4_saying_X4_isIn
set_option maxRecDepth 20000 in
theorem ggX4_saying_X4_of : GoodIn wsX4_saying wsX4_of := goodIn_r _ [17] rfl (by decide +kernel)
set_option maxRecDepth 20000 in
theorem gX4_saying_X4_of : GoodIn wsX4_saying (va_wsS RX4 44 yX4_of wsX4_of) := goodIn_app (goodIn_r _ [15, 16, 5] rfl (by decide +kernel)) ggX4_saying_X4_of
set_option maxRecDepth 20000 in
theorem ggX4_saying_X4_sumOf : GoodIn wsX4_saying wsX4_sumOf := goodIn_r _ [20, 21, 22, 5, 23, 24, 25, 26, 27, 28, 29, 15, 16, 17, 30, 31, 32, 33, 34, 35] rfl (by decide +kernel)
set_option maxRecDepth 20000 in
theorem gX4_saying_X4_sumOf : GoodIn wsX4_saying (va_wsS RX4 69 yX4_sumOf wsX4_sumOf) := goodIn_app (goodIn_r _ [18, 19, 5] rfl (by decide +kernel)) ggX4_saying_X4_sumOf
set_option maxRecDepth 20000 in
theorem ggX4_lacksOf_X4_sumOf : GoodIn wsX4_lacksOf wsX4_sumOf := goodIn_r _ [4, 5, 6, 3, 7, 8, 9, 10, 11, 12, 13, 14, 15, 16, 17, 18, 19, 20, 21, 22] rfl (by decide +kernel)
set_option maxRecDepth 20000 in
theorem gX4_lacksOf_X4_sumOf : GoodIn wsX4_lacksOf (va_wsS RX4 69 yX4_sumOf wsX4_sumOf) := goodIn_app (goodIn_r _ [1, 2, 3] rfl (by decide +kernel)) ggX4_lacksOf_X4_sumOf
set_option maxRecDepth 20000 in
theorem ggX4_nest_X4_isWoman : GoodIn wsX4_nest wsX4_isWoman := goodIn_r _ [5, 6, 7, 4, 8] rfl (by decide +kernel)
set_option maxRecDepth 20000 in
theorem gX4_nest_X4_isWoman : GoodIn wsX4_nest (va_wsS RX4 120 yX4_isWoman wsX4_isWoman) := goodIn_app (goodIn_r _ [2, 3, 4] rfl (by decide +kernel)) ggX4_nest_X4_isWoman
set_option maxRecDepth 20000 in
theorem ggX4_nest_X4_no : GoodIn wsX4_nest wsX4_no := goodIn_r _ [12, 13, 47, 48, 49, 50, 51, 52, 53, 54, 55, 56, 57, 58, 59] rfl (by decide +kernel)
set_option maxRecDepth 20000 in
theorem gX4_nest_X4_no : GoodIn wsX4_nest (wsV RX4 36 RX4 yX4_no wsX4_no) := goodIn_app (goodIn_r _ [9, 10, 11, 4] rfl (by decide +kernel)) ggX4_nest_X4_no
set_option maxRecDepth 20000 in
theorem ggX4_nest_X4_nestIn : GoodIn wsX4_nest wsX4_nestIn := goodIn_r _ [16, 17, 18, 4, 19, 20, 21, 22] rfl (by decide +kernel)
set_option maxRecDepth 20000 in
theorem gX4_nest_X4_nestIn : GoodIn wsX4_nest (va_wsS RX4 72 yX4_nestIn wsX4_nestIn) := goodIn_app (goodIn_r _ [14, 15, 4] rfl (by decide +kernel)) ggX4_nest_X4_nestIn
set_option maxRecDepth 20000 in
theorem ggX4_nest_X4_sumOf : GoodIn wsX4_nest wsX4_sumOf := goodIn_r _ [25, 26, 27, 4, 28, 29, 30, 31, 32, 33, 34, 20, 21, 22, 35, 36, 37, 38, 39, 40] rfl (by decide +kernel)
set_option maxRecDepth 20000 in
theorem gX4_nest_X4_sumOf : GoodIn wsX4_nest (va_wsS RX4 69 yX4_sumOf wsX4_sumOf) := goodIn_app (goodIn_r _ [23, 24, 4] rfl (by decide +kernel)) ggX4_nest_X4_sumOf
set_option maxRecDepth 20000 in
theorem ggX4_nest_X4_holdsSet : GoodIn wsX4_nest wsX4_holdsSet := goodIn_r _ [43, 23, 24, 4, 25, 26, 27, 28, 29, 30, 31, 32, 33, 34, 20, 21, 22, 35, 36, 37, 38, 39, 40] rfl (by decide +kernel)
set_option maxRecDepth 20000 in
theorem gX4_nest_X4_holdsSet : GoodIn wsX4_nest (va_wsS RX4 85 yX4_holdsSet wsX4_holdsSet) := goodIn_app (goodIn_r _ [41, 42, 4] rfl (by decide +kernel)) ggX4_nest_X4_holdsSet
set_option maxRecDepth 20000 in
theorem ggX4_nest_X4_lacksOf : GoodIn wsX4_nest wsX4_lacksOf := goodIn_r _ [46, 23, 24, 4, 25, 26, 27, 28, 29, 30, 31, 32, 33, 34, 20, 21, 22, 35, 36, 37, 38, 39, 40] rfl (by decide +kernel)
set_option maxRecDepth 20000 in
theorem gX4_nest_X4_lacksOf : GoodIn wsX4_nest (va_wsS RX4 144 yX4_lacksOf wsX4_lacksOf) := goodIn_app (goodIn_r _ [44, 45, 4] rfl (by decide +kernel)) ggX4_nest_X4_lacksOf
set_option maxRecDepth 20000 in
theorem ggX4_takes_X4_isSaying : GoodIn wsX4_takes wsX4_isSaying := goodIn_r _ [6, 1, 7, 8, 5, 9, 18, 19, 20, 21, 22, 23, 24, 25, 26, 27, 28, 29, 30] rfl (by decide +kernel)
set_option maxRecDepth 20000 in
theorem gX4_takes_X4_isSaying : GoodIn wsX4_takes (wsV RX4 128 RX4 yX4_isSaying wsX4_isSaying) := goodIn_app (goodIn_r _ [2, 3, 4, 5] rfl (by decide +kernel)) ggX4_takes_X4_isSaying
set_option maxRecDepth 20000 in
theorem ggX4_takes_X4_no : GoodIn wsX4_takes wsX4_no := goodIn_r _ [13, 14, 18, 19, 20, 21, 22, 23, 24, 25, 26, 27, 28, 29, 30] rfl (by decide +kernel)
set_option maxRecDepth 20000 in
theorem gX4_takes_X4_no : GoodIn wsX4_takes (wsV RX4 36 RX4 yX4_no wsX4_no) := goodIn_app (goodIn_r _ [10, 11, 12, 5] rfl (by decide +kernel)) ggX4_takes_X4_no
set_option maxRecDepth 20000 in
theorem ggX4_takes_X4_of : GoodIn wsX4_takes wsX4_of := goodIn_r _ [17] rfl (by decide +kernel)
set_option maxRecDepth 20000 in
theorem gX4_takes_X4_of : GoodIn wsX4_takes (va_wsS RX4 44 yX4_of wsX4_of) := goodIn_app (goodIn_r _ [15, 16, 5] rfl (by decide +kernel)) ggX4_takes_X4_of
set_option maxRecDepth 20000 in
theorem ggX4_wears_X4_isSaying : GoodIn wsX4_wears wsX4_isSaying := goodIn_r _ [6, 1, 7, 8, 5, 9, 21, 22, 23, 24, 25, 26, 27, 28, 29, 30, 31, 32, 33] rfl (by decide +kernel)
set_option maxRecDepth 20000 in
theorem gX4_wears_X4_isSaying : GoodIn wsX4_wears (wsV RX4 128 RX4 yX4_isSaying wsX4_isSaying) := goodIn_app (goodIn_r _ [2, 3, 4, 5] rfl (by decide +kernel)) ggX4_wears_X4_isSaying
set_option maxRecDepth 20000 in
theorem ggX4_wears_X4_wrongBy : GoodIn wsX4_wears wsX4_wrongBy := goodIn_r _ [12] rfl (by decide +kernel)
set_option maxRecDepth 20000 in
theorem gX4_wears_X4_wrongBy : GoodIn wsX4_wears (va_wsS RX4 147 yX4_wrongBy wsX4_wrongBy) := goodIn_app (goodIn_r _ [10, 11, 5] rfl (by decide +kernel)) ggX4_wears_X4_wrongBy
set_option maxRecDepth 20000 in
theorem ggX4_wears_X4_no : GoodIn wsX4_wears wsX4_no := goodIn_r _ [16, 17, 21, 22, 23, 24, 25, 26, 27, 28, 29, 30, 31, 32, 33] rfl (by decide +kernel)
set_option maxRecDepth 20000 in
theorem gX4_wears_X4_no : GoodIn wsX4_wears (wsV RX4 36 RX4 yX4_no wsX4_no) := goodIn_app (goodIn_r _ [13, 14, 15, 5] rfl (by decide +kernel)) ggX4_wears_X4_no
set_option maxRecDepth 20000 in
theorem ggX4_wears_X4_of : GoodIn wsX4_wears wsX4_of := goodIn_r _ [20] rfl (by decide +kernel)
set_option maxRecDepth 20000 in
theorem gX4_wears_X4_of : GoodIn wsX4_wears (va_wsS RX4 44 yX4_of wsX4_of) := goodIn_app (goodIn_r _ [18, 19, 5] rfl (by decide +kernel)) ggX4_wears_X4_of
set_option maxRecDepth 20000 in
theorem ggX4_concerns_X4_isSaying : GoodIn wsX4_concerns wsX4_isSaying := goodIn_r _ [6, 1, 7, 8, 5, 9, 21, 22, 23, 24, 25, 26, 27, 28, 29, 30, 31, 32, 33] rfl (by decide +kernel)
set_option maxRecDepth 20000 in
theorem gX4_concerns_X4_isSaying : GoodIn wsX4_concerns (wsV RX4 128 RX4 yX4_isSaying wsX4_isSaying) := goodIn_app (goodIn_r _ [2, 3, 4, 5] rfl (by decide +kernel)) ggX4_concerns_X4_isSaying
set_option maxRecDepth 20000 in
theorem ggX4_concerns_X4_isWoman : GoodIn wsX4_concerns wsX4_isWoman := goodIn_r _ [12, 7, 8, 5, 9] rfl (by decide +kernel)
set_option maxRecDepth 20000 in
theorem gX4_concerns_X4_isWoman : GoodIn wsX4_concerns (va_wsS RX4 120 yX4_isWoman wsX4_isWoman) := goodIn_app (goodIn_r _ [10, 11, 5] rfl (by decide +kernel)) ggX4_concerns_X4_isWoman
set_option maxRecDepth 20000 in
theorem ggX4_concerns_X4_no : GoodIn wsX4_concerns wsX4_no := goodIn_r _ [16, 17, 21, 22, 23, 24, 25, 26, 27, 28, 29, 30, 31, 32, 33] rfl (by decide +kernel)
set_option maxRecDepth 20000 in
theorem gX4_concerns_X4_no : GoodIn wsX4_concerns (wsV RX4 36 RX4 yX4_no wsX4_no) := goodIn_app (goodIn_r _ [13, 14, 15, 5] rfl (by decide +kernel)) ggX4_concerns_X4_no
set_option maxRecDepth 20000 in
theorem ggX4_concerns_X4_of : GoodIn wsX4_concerns wsX4_of := goodIn_r _ [20] rfl (by decide +kernel)
set_option maxRecDepth 20000 in
theorem gX4_concerns_X4_of : GoodIn wsX4_concerns (va_wsS RX4 44 yX4_of wsX4_of) := goodIn_app (goodIn_r _ [18, 19, 5] rfl (by decide +kernel)) ggX4_concerns_X4_of
set_option maxRecDepth 20000 in
theorem ggX4_boy_X4_isWoman : GoodIn wsX4_boy wsX4_isWoman := goodIn_r _ [5, 6, 7, 4, 8] rfl (by decide +kernel)
set_option maxRecDepth 20000 in
theorem gX4_boy_X4_isWoman : GoodIn wsX4_boy (va_wsS RX4 120 yX4_isWoman wsX4_isWoman) := goodIn_app (goodIn_r _ [2, 3, 4] rfl (by decide +kernel)) ggX4_boy_X4_isWoman
set_option maxRecDepth 20000 in
theorem ggX4_boy_X4_no : GoodIn wsX4_boy wsX4_no := goodIn_r _ [12, 13, 35, 36, 37, 38, 39, 40, 41, 42, 43, 44, 45, 46, 47] rfl (by decide +kernel)
set_option maxRecDepth 20000 in
theorem gX4_boy_X4_no : GoodIn wsX4_boy (wsV RX4 36 RX4 yX4_no wsX4_no) := goodIn_app (goodIn_r _ [9, 10, 11, 4] rfl (by decide +kernel)) ggX4_boy_X4_no
set_option maxRecDepth 20000 in
theorem ggX4_boy_X4_nestIn : GoodIn wsX4_boy wsX4_nestIn := goodIn_r _ [16, 17, 18, 4, 19, 20, 21, 22] rfl (by decide +kernel)
set_option maxRecDepth 20000 in
theorem gX4_boy_X4_nestIn : GoodIn wsX4_boy (va_wsS RX4 72 yX4_nestIn wsX4_nestIn) := goodIn_app (goodIn_r _ [14, 15, 4] rfl (by decide +kernel)) ggX4_boy_X4_nestIn
set_option maxRecDepth 20000 in
theorem ggX4_boy_X4_bits : GoodIn wsX4_boy wsX4_bits := goodIn_r _ [25] rfl (by decide +kernel)
set_option maxRecDepth 20000 in
theorem gX4_boy_X4_bits : GoodIn wsX4_boy (va_wsS RX4 96 yX4_bits wsX4_bits) := goodIn_app (goodIn_r _ [23, 24, 4] rfl (by decide +kernel)) ggX4_boy_X4_bits
set_option maxRecDepth 20000 in
theorem ggX4_boy_X4_fallsIn : GoodIn wsX4_boy wsX4_fallsIn := goodIn_r _ [28, 14, 15, 4, 16, 17, 18, 19, 20, 21, 22, 29, 30, 31, 32, 33, 34] rfl (by decide +kernel)
set_option maxRecDepth 20000 in
theorem gX4_boy_X4_fallsIn : GoodIn wsX4_boy (va_wsS RX4 89 yX4_fallsIn wsX4_fallsIn) := goodIn_app (goodIn_r _ [26, 27, 4] rfl (by decide +kernel)) ggX4_boy_X4_fallsIn
set_option maxRecDepth 20000 in
theorem ggX4_turn_X4_isSaying : GoodIn wsX4_turn wsX4_isSaying := goodIn_r _ [6, 1, 7, 8, 5, 9, 21, 22, 23, 24, 25, 26, 27, 28, 29, 30, 31, 32, 33] rfl (by decide +kernel)
set_option maxRecDepth 20000 in
theorem gX4_turn_X4_isSaying : GoodIn wsX4_turn (wsV RX4 128 RX4 yX4_isSaying wsX4_isSaying) := goodIn_app (goodIn_r _ [2, 3, 4, 5] rfl (by decide +kernel)) ggX4_turn_X4_isSaying
set_option maxRecDepth 20000 in
theorem ggX4_turn_X4_isIn : GoodIn wsX4_turn wsX4_isIn := goodIn_r _ [9] rfl (by decide +kernel)
set_option maxRecDepth 20000 in
theorem gX4_turn_X4_isIn : GoodIn wsX4_turn (va_wsS RX4 40 yX4_isIn wsX4_isIn) := goodIn_app (goodIn_r _ [7, 8, 5] rfl (by decide +kernel)) ggX4_turn_X4_isIn
set_option maxRecDepth 20000 in
theorem ggX4_turn_X4_wrongBy : GoodIn wsX4_turn wsX4_wrongBy := goodIn_r _ [12] rfl (by decide +kernel)
set_option maxRecDepth 20000 in
theorem gX4_turn_X4_wrongBy : GoodIn wsX4_turn (va_wsS RX4 147 yX4_wrongBy wsX4_wrongBy) := goodIn_app (goodIn_r _ [10, 11, 5] rfl (by decide +kernel)) ggX4_turn_X4_wrongBy
set_option maxRecDepth 20000 in
theorem ggX4_turn_X4_no : GoodIn wsX4_turn wsX4_no := goodIn_r _ [16, 17, 21, 22, 23, 24, 25, 26, 27, 28, 29, 30, 31, 32, 33] rfl (by decide +kernel)
set_option maxRecDepth 20000 in
theorem gX4_turn_X4_no : GoodIn wsX4_turn (wsV RX4 36 RX4 yX4_no wsX4_no) := goodIn_app (goodIn_r _ [13, 14, 15, 5] rfl (by decide +kernel)) ggX4_turn_X4_no
set_option maxRecDepth 20000 in
theorem ggX4_turn_X4_of : GoodIn wsX4_turn wsX4_of := goodIn_r _ [20] rfl (by decide +kernel)
set_option maxRecDepth 20000 in
theorem gX4_turn_X4_of : GoodIn wsX4_turn (va_wsS RX4 44 yX4_of wsX4_of) := goodIn_app (goodIn_r _ [18, 19, 5] rfl (by decide +kernel)) ggX4_turn_X4_of
set_option maxRecDepth 20000 in
theorem ggX4_days_X4_no : GoodIn wsX4_days wsX4_no := goodIn_r _ [6, 7, 59, 60, 61, 62, 63, 64, 65, 66, 67, 68, 69, 70, 71] rfl (by decide +kernel)
set_option maxRecDepth 20000 in
theorem gX4_days_X4_no : GoodIn wsX4_days (wsV RX4 36 RX4 yX4_no wsX4_no) := goodIn_app (goodIn_r _ [2, 3, 4, 5] rfl (by decide +kernel)) ggX4_days_X4_no
set_option maxRecDepth 20000 in
theorem ggX4_days_X4_daysOn : GoodIn wsX4_days wsX4_daysOn := goodIn_r _ [10, 11, 12, 5, 13, 14, 15, 16, 17, 18, 19, 20, 21, 22, 23, 24, 25, 26, 27, 28, 29, 30, 31, 32, 33, 34, 35, 36, 37, 38, 39, 40, 41, 42, 43, 44, 45, 46, 47, 48, 49, 50, 51, 52, 53, 54, 55, 56, 57, 58] rfl (by decide +kernel)
set_option maxRecDepth 20000 in
theorem gX4_days_X4_daysOn : GoodIn wsX4_days (va_wsS RX4 131 yX4_daysOn wsX4_daysOn) := goodIn_app (goodIn_r _ [8, 9, 5] rfl (by decide +kernel)) ggX4_days_X4_daysOn
set_option maxRecDepth 20000 in
theorem ggX4_takesOn_X4_copies : GoodIn wsX4_takesOn wsX4_copies := goodIn_r _ [6] rfl (by decide +kernel)
set_option maxRecDepth 20000 in
theorem gX4_takesOn_X4_copies : GoodIn wsX4_takesOn (va_wsS RX4 137 yX4_copies wsX4_copies) := goodIn_app (goodIn_r _ [3, 4, 5] rfl (by decide +kernel)) ggX4_takesOn_X4_copies
set_option maxRecDepth 20000 in
theorem ggX4_takesOn_X4_daysOn : GoodIn wsX4_takesOn wsX4_daysOn := goodIn_r _ [9, 10, 11, 5, 12, 13, 14, 15, 16, 17, 18, 19, 20, 21, 22, 23, 24, 25, 26, 27, 28, 29, 30, 31, 32, 33, 34, 35, 36, 37, 38, 39, 40, 41, 42, 43, 44, 45, 46, 47, 48, 49, 50, 51, 52, 53, 54, 55, 56, 57] rfl (by decide +kernel)
set_option maxRecDepth 20000 in
theorem gX4_takesOn_X4_daysOn : GoodIn wsX4_takesOn (va_wsS RX4 131 yX4_daysOn wsX4_daysOn) := goodIn_app (goodIn_r _ [7, 8, 5] rfl (by decide +kernel)) ggX4_takesOn_X4_daysOn
set_option maxRecDepth 20000 in
theorem ggX4_nestThen_X4_isWoman : GoodIn wsX4_nestThen wsX4_isWoman := goodIn_r _ [5, 6, 7, 4, 8] rfl (by decide +kernel)
set_option maxRecDepth 20000 in
theorem gX4_nestThen_X4_isWoman : GoodIn wsX4_nestThen (va_wsS RX4 120 yX4_isWoman wsX4_isWoman) := goodIn_app (goodIn_r _ [2, 3, 4] rfl (by decide +kernel)) ggX4_nestThen_X4_isWoman
set_option maxRecDepth 20000 in
theorem ggX4_nestThen_X4_wrongBy : GoodIn wsX4_nestThen wsX4_wrongBy := goodIn_r _ [11] rfl (by decide +kernel)
set_option maxRecDepth 20000 in
theorem gX4_nestThen_X4_wrongBy : GoodIn wsX4_nestThen (va_wsS RX4 147 yX4_wrongBy wsX4_wrongBy) := goodIn_app (goodIn_r _ [9, 10, 4] rfl (by decide +kernel)) ggX4_nestThen_X4_wrongBy
set_option maxRecDepth 20000 in
theorem ggX4_nestThen_X4_isIn : GoodIn wsX4_nestThen wsX4_isIn := goodIn_r _ [8] rfl (by decide +kernel)
set_option maxRecDepth 20000 in
theorem gX4_nestThen_X4_isIn : GoodIn wsX4_nestThen (va_wsS RX4 40 yX4_isIn wsX4_isIn) := goodIn_app (goodIn_r _ [6, 7, 4] rfl (by decide +kernel)) ggX4_nestThen_X4_isIn
set_option maxRecDepth 20000 in
theorem ggX4_nestThen_X4_no : GoodIn wsX4_nestThen wsX4_no := goodIn_r _ [15, 16, 76, 77, 78, 79, 80, 81, 82, 83, 84, 85, 86, 87, 88] rfl (by decide +kernel)
set_option maxRecDepth 20000 in
theorem gX4_nestThen_X4_no : GoodIn wsX4_nestThen (wsV RX4 36 RX4 yX4_no wsX4_no) := goodIn_app (goodIn_r _ [12, 13, 14, 4] rfl (by decide +kernel)) ggX4_nestThen_X4_no
set_option maxRecDepth 20000 in
theorem ggX4_nestThen_X4_takesOn : GoodIn wsX4_nestThen wsX4_takesOn := goodIn_r _ [20, 21, 1, 22, 23, 4, 24, 25, 26, 27, 28, 29, 30, 31, 32, 33, 34, 35, 36, 37, 38, 39, 40, 41, 42, 43, 44, 45, 46, 47, 48, 49, 50, 51, 52, 53, 54, 55, 56, 57, 58, 59, 60, 61, 62, 63, 64, 65, 66, 67, 68, 69, 70, 71, 72, 73, 74, 75, 76, 77, 78, 79, 80, 81, 82, 83, 84, 85, 86, 87, 88] rfl (by decide +kernel)
set_option maxRecDepth 20000 in
theorem gX4_nestThen_X4_takesOn : GoodIn wsX4_nestThen (wsV RX4 151 RX4 yX4_takesOn wsX4_takesOn) := goodIn_app (goodIn_r _ [17, 18, 19, 4] rfl (by decide +kernel)) ggX4_nestThen_X4_takesOn
set_option maxRecDepth 20000 in
theorem ggX4_nestThen_X4_nestIn : GoodIn wsX4_nestThen wsX4_nestIn := goodIn_r _ [45, 46, 47, 4, 48, 34, 35, 36] rfl (by decide +kernel)
set_option maxRecDepth 20000 in
theorem gX4_nestThen_X4_nestIn : GoodIn wsX4_nestThen (va_wsS RX4 72 yX4_nestIn wsX4_nestIn) := goodIn_app (goodIn_r _ [43, 44, 4] rfl (by decide +kernel)) ggX4_nestThen_X4_nestIn
set_option maxRecDepth 20000 in
theorem ggX4_nestThen_X4_sumOf : GoodIn wsX4_nestThen wsX4_sumOf := goodIn_r _ [54, 55, 56, 4, 57, 58, 59, 60, 61, 62, 63, 34, 35, 36, 64, 65, 66, 67, 68, 69] rfl (by decide +kernel)
set_option maxRecDepth 20000 in
theorem gX4_nestThen_X4_sumOf : GoodIn wsX4_nestThen (va_wsS RX4 69 yX4_sumOf wsX4_sumOf) := goodIn_app (goodIn_r _ [52, 53, 4] rfl (by decide +kernel)) ggX4_nestThen_X4_sumOf
set_option maxRecDepth 20000 in
theorem ggX4_robbedThen_X4_wrongBy : GoodIn wsX4_robbedThen wsX4_wrongBy := goodIn_r _ [5] rfl (by decide +kernel)
set_option maxRecDepth 20000 in
theorem gX4_robbedThen_X4_wrongBy : GoodIn wsX4_robbedThen (va_wsS RX4 147 yX4_wrongBy wsX4_wrongBy) := goodIn_app (goodIn_r _ [2, 3, 4] rfl (by decide +kernel)) ggX4_robbedThen_X4_wrongBy
set_option maxRecDepth 20000 in
theorem ggX4_robbedThen_X4_no : GoodIn wsX4_robbedThen wsX4_no := goodIn_r _ [9, 10, 70, 71, 72, 73, 74, 75, 76, 77, 78, 79, 80, 81, 82] rfl (by decide +kernel)
set_option maxRecDepth 20000 in
theorem gX4_robbedThen_X4_no : GoodIn wsX4_robbedThen (wsV RX4 36 RX4 yX4_no wsX4_no) := goodIn_app (goodIn_r _ [6, 7, 8, 4] rfl (by decide +kernel)) ggX4_robbedThen_X4_no
set_option maxRecDepth 20000 in
theorem ggX4_robbedThen_X4_takesOn : GoodIn wsX4_robbedThen wsX4_takesOn := goodIn_r _ [14, 15, 1, 16, 17, 4, 18, 19, 20, 21, 22, 23, 24, 25, 26, 27, 28, 29, 30, 31, 32, 33, 34, 35, 36, 37, 38, 39, 40, 41, 42, 43, 44, 45, 46, 47, 48, 49, 50, 51, 52, 53, 54, 55, 56, 57, 58, 59, 60, 61, 62, 63, 64, 65, 66, 67, 68, 69, 70, 71, 72, 73, 74, 75, 76, 77, 78, 79, 80, 81, 82] rfl (by decide +kernel)
set_option maxRecDepth 20000 in
theorem gX4_robbedThen_X4_takesOn : GoodIn wsX4_robbedThen (wsV RX4 151 RX4 yX4_takesOn wsX4_takesOn) := goodIn_app (goodIn_r _ [11, 12, 13, 4] rfl (by decide +kernel)) ggX4_robbedThen_X4_takesOn
set_option maxRecDepth 20000 in
theorem ggX4_whenFalls_X4_copies : GoodIn wsX4_whenFalls wsX4_copies := goodIn_r _ [6] rfl (by decide +kernel)
set_option maxRecDepth 20000 in
theorem gX4_whenFalls_X4_copies : GoodIn wsX4_whenFalls (va_wsS RX4 137 yX4_copies wsX4_copies) := goodIn_app (goodIn_r _ [3, 4, 5] rfl (by decide +kernel)) ggX4_whenFalls_X4_copies
set_option maxRecDepth 20000 in
theorem ggX4_whenFalls_X4_day : GoodIn wsX4_whenFalls wsX4_day := goodIn_r _ [9, 10, 11, 5, 12, 13, 14, 15, 16, 17, 18, 19, 20, 21, 22, 23, 24, 25, 26, 27, 28, 29, 30, 31, 32, 33, 34, 35, 36, 37, 38, 39, 40, 41, 42, 43, 44, 45, 46, 47, 48, 49, 50, 51] rfl (by decide +kernel)
set_option maxRecDepth 20000 in
theorem gX4_whenFalls_X4_day : GoodIn wsX4_whenFalls (va_wsS RX4 92 yX4_day wsX4_day) := goodIn_app (goodIn_r _ [7, 8, 5] rfl (by decide +kernel)) ggX4_whenFalls_X4_day
set_option maxRecDepth 20000 in
theorem ggX4_falls_X4_isWoman : GoodIn wsX4_falls wsX4_isWoman := goodIn_r _ [4, 5, 6, 3, 7] rfl (by decide +kernel)
set_option maxRecDepth 20000 in
theorem gX4_falls_X4_isWoman : GoodIn wsX4_falls (va_wsS RX4 120 yX4_isWoman wsX4_isWoman) := goodIn_app (goodIn_r _ [1, 2, 3] rfl (by decide +kernel)) ggX4_falls_X4_isWoman
set_option maxRecDepth 20000 in
theorem ggX4_falls_X4_whenFalls : GoodIn wsX4_falls wsX4_whenFalls := goodIn_r _ [11, 12, 13, 14, 15, 3, 16, 17, 18, 19, 20, 21, 22, 23, 24, 25, 26, 27, 28, 29, 30, 31, 32, 33, 34, 35, 36, 37, 38, 39, 40, 41, 42, 43, 44, 45, 46, 47, 48, 49, 50, 51, 52, 53, 54, 55, 56, 57, 58, 59, 60, 61, 67, 68, 69, 70, 71, 72, 73, 74, 75, 76, 77, 78, 79] rfl (by decide +kernel)
set_option maxRecDepth 20000 in
theorem gX4_falls_X4_whenFalls : GoodIn wsX4_falls (wsV RX4 154 RX4 yX4_whenFalls wsX4_whenFalls) := goodIn_app (goodIn_r _ [8, 9, 10, 3] rfl (by decide +kernel)) ggX4_falls_X4_whenFalls
set_option maxRecDepth 20000 in
theorem ggX4_falls_X4_no : GoodIn wsX4_falls wsX4_no := goodIn_r _ [65, 66, 67, 68, 69, 70, 71, 72, 73, 74, 75, 76, 77, 78, 79] rfl (by decide +kernel)
set_option maxRecDepth 20000 in
theorem gX4_falls_X4_no : GoodIn wsX4_falls (wsV RX4 36 RX4 yX4_no wsX4_no) := goodIn_app (goodIn_r _ [62, 63, 64, 3] rfl (by decide +kernel)) ggX4_falls_X4_no
set_option maxRecDepth 20000 in
theorem ggX4_still_X4_copies : GoodIn wsX4_still wsX4_copies := goodIn_r _ [6] rfl (by decide +kernel)
set_option maxRecDepth 20000 in
theorem gX4_still_X4_copies : GoodIn wsX4_still (va_wsS RX4 137 yX4_copies wsX4_copies) := goodIn_app (goodIn_r _ [3, 4, 5] rfl (by decide +kernel)) ggX4_still_X4_copies
set_option maxRecDepth 20000 in
theorem ggX4_still_X4_inNests : GoodIn wsX4_still wsX4_inNests := goodIn_r _ [9, 10, 11, 5, 12] rfl (by decide +kernel)
set_option maxRecDepth 20000 in
theorem gX4_still_X4_inNests : GoodIn wsX4_still (va_wsS RX4 157 yX4_inNests wsX4_inNests) := goodIn_app (goodIn_r _ [7, 8, 5] rfl (by decide +kernel)) ggX4_still_X4_inNests
set_option maxRecDepth 20000 in
theorem ggX4_still_X4_day : GoodIn wsX4_still wsX4_day := goodIn_r _ [15, 16, 17, 5, 18, 10, 11, 12, 19, 20, 21, 22, 23, 24, 25, 26, 27, 28, 29, 30, 31, 32, 33, 34, 35, 36, 37, 38, 39, 40, 41, 42, 43, 44, 45, 46, 47, 48, 49, 50, 51, 52, 53, 54] rfl (by decide +kernel)
set_option maxRecDepth 20000 in
theorem gX4_still_X4_day : GoodIn wsX4_still (va_wsS RX4 92 yX4_day wsX4_day) := goodIn_app (goodIn_r _ [13, 14, 5] rfl (by decide +kernel)) ggX4_still_X4_day
set_option maxRecDepth 20000 in
theorem ggX4_first_X4_isIn : GoodIn wsX4_first wsX4_isIn := goodIn_r _ [4] rfl (by decide +kernel)
set_option maxRecDepth 20000 in
theorem gX4_first_X4_isIn : GoodIn wsX4_first (va_wsS RX4 40 yX4_isIn wsX4_isIn) := goodIn_app (goodIn_r _ [1, 2, 3] rfl (by decide +kernel)) ggX4_first_X4_isIn
set_option maxRecDepth 20000 in
theorem ggX4_first_X4_no : GoodIn wsX4_first wsX4_no := goodIn_r _ [8, 9, 71, 72, 73, 74, 75, 76, 77, 78, 79, 80, 81, 82, 83] rfl (by decide +kernel)
set_option maxRecDepth 20000 in
theorem gX4_first_X4_no : GoodIn wsX4_first (wsV RX4 36 RX4 yX4_no wsX4_no) := goodIn_app (goodIn_r _ [5, 6, 7, 3] rfl (by decide +kernel)) ggX4_first_X4_no
set_option maxRecDepth 20000 in
theorem ggX4_first_X4_still : GoodIn wsX4_first wsX4_still := goodIn_r _ [13, 14, 15, 16, 17, 3, 18, 19, 20, 21, 22, 23, 24, 25, 26, 27, 28, 29, 30, 31, 32, 33, 34, 35, 36, 37, 38, 39, 40, 41, 42, 43, 44, 45, 46, 47, 48, 49, 50, 51, 52, 53, 54, 55, 56, 57, 58, 59, 60, 61, 62, 63, 64, 65, 66, 71, 72, 73, 74, 75, 76, 77, 78, 79, 80, 81, 82, 83] rfl (by decide +kernel)
set_option maxRecDepth 20000 in
theorem gX4_first_X4_still : GoodIn wsX4_first (wsV RX4 160 RX4 yX4_still wsX4_still) := goodIn_app (goodIn_r _ [10, 11, 12, 3] rfl (by decide +kernel)) ggX4_first_X4_still
set_option maxRecDepth 20000 in
theorem ggX4_first_X4_whenFalls : GoodIn wsX4_first wsX4_whenFalls := goodIn_r _ [70, 14, 15, 16, 17, 3, 18, 25, 26, 27, 28, 29, 30, 22, 23, 24, 31, 32, 33, 34, 35, 36, 37, 38, 39, 40, 41, 42, 43, 44, 45, 46, 47, 48, 49, 50, 51, 52, 53, 54, 55, 56, 57, 58, 59, 60, 61, 62, 63, 64, 65, 66, 71, 72, 73, 74, 75, 76, 77, 78, 79, 80, 81, 82, 83] rfl (by decide +kernel)
set_option maxRecDepth 20000 in
theorem gX4_first_X4_whenFalls : GoodIn wsX4_first (wsV RX4 154 RX4 yX4_whenFalls wsX4_whenFalls) := goodIn_app (goodIn_r _ [67, 68, 69, 3] rfl (by decide +kernel)) ggX4_first_X4_whenFalls
set_option maxRecDepth 20000 in
theorem ggX4_cushion_X4_isIn : GoodIn wsX4_cushion wsX4_isIn := goodIn_r _ [6] rfl (by decide +kernel)
set_option maxRecDepth 20000 in
theorem gX4_cushion_X4_isIn : GoodIn wsX4_cushion (va_wsS RX4 40 yX4_isIn wsX4_isIn) := goodIn_app (goodIn_r _ [3, 4, 5] rfl (by decide +kernel)) ggX4_cushion_X4_isIn
set_option maxRecDepth 20000 in
theorem ggX4_cushion_X4_no : GoodIn wsX4_cushion wsX4_no := goodIn_r _ [10, 11, 60, 61, 62, 63, 64, 65, 66, 67, 68, 69, 70, 71, 72] rfl (by decide +kernel)
set_option maxRecDepth 20000 in
theorem gX4_cushion_X4_no : GoodIn wsX4_cushion (wsV RX4 36 RX4 yX4_no wsX4_no) := goodIn_app (goodIn_r _ [7, 8, 9, 5] rfl (by decide +kernel)) ggX4_cushion_X4_no
set_option maxRecDepth 20000 in
theorem ggX4_cushion_X4_copies : GoodIn wsX4_cushion wsX4_copies := goodIn_r _ [14] rfl (by decide +kernel)
set_option maxRecDepth 20000 in
theorem gX4_cushion_X4_copies : GoodIn wsX4_cushion (va_wsS RX4 137 yX4_copies wsX4_copies) := goodIn_app (goodIn_r _ [12, 13, 5] rfl (by decide +kernel)) ggX4_cushion_X4_copies
set_option maxRecDepth 20000 in
theorem ggX4_cushion_X4_nestIn : GoodIn wsX4_cushion wsX4_nestIn := goodIn_r _ [17, 18, 19, 5, 20, 21, 22, 23] rfl (by decide +kernel)
set_option maxRecDepth 20000 in
theorem gX4_cushion_X4_nestIn : GoodIn wsX4_cushion (va_wsS RX4 72 yX4_nestIn wsX4_nestIn) := goodIn_app (goodIn_r _ [15, 16, 5] rfl (by decide +kernel)) ggX4_cushion_X4_nestIn
set_option maxRecDepth 20000 in
theorem ggX4_cushion_X4_sumOf : GoodIn wsX4_cushion wsX4_sumOf := goodIn_r _ [26, 27, 28, 5, 29, 30, 31, 32, 33, 34, 35, 21, 22, 23, 36, 37, 38, 39, 40, 41] rfl (by decide +kernel)
set_option maxRecDepth 20000 in
theorem gX4_cushion_X4_sumOf : GoodIn wsX4_cushion (va_wsS RX4 69 yX4_sumOf wsX4_sumOf) := goodIn_app (goodIn_r _ [24, 25, 5] rfl (by decide +kernel)) ggX4_cushion_X4_sumOf
set_option maxRecDepth 20000 in
theorem ggX4_cushion_X4_day : GoodIn wsX4_cushion wsX4_day := goodIn_r _ [44, 45, 46, 5, 47, 21, 22, 23, 48, 49, 50, 51, 52, 53, 15, 16, 17, 18, 19, 20, 54, 55, 56, 24, 25, 26, 27, 28, 29, 30, 31, 32, 33, 34, 35, 36, 37, 38, 39, 40, 41, 57, 58, 59] rfl (by decide +kernel)
set_option maxRecDepth 20000 in
theorem gX4_cushion_X4_day : GoodIn wsX4_cushion (va_wsS RX4 92 yX4_day wsX4_day) := goodIn_app (goodIn_r _ [42, 43, 5] rfl (by decide +kernel)) ggX4_cushion_X4_day
set_option maxRecDepth 20000 in
theorem ggX4_more_X4_isWoman : GoodIn wsX4_more wsX4_isWoman := goodIn_r _ [5, 6, 7, 4, 8] rfl (by decide +kernel)
set_option maxRecDepth 20000 in
theorem gX4_more_X4_isWoman : GoodIn wsX4_more (va_wsS RX4 120 yX4_isWoman wsX4_isWoman) := goodIn_app (goodIn_r _ [2, 3, 4] rfl (by decide +kernel)) ggX4_more_X4_isWoman
set_option maxRecDepth 20000 in
theorem ggX4_more_X4_no : GoodIn wsX4_more wsX4_no := goodIn_r _ [12, 13, 47, 48, 49, 50, 51, 52, 53, 54, 55, 56, 57, 58, 59] rfl (by decide +kernel)
set_option maxRecDepth 20000 in
theorem gX4_more_X4_no : GoodIn wsX4_more (wsV RX4 36 RX4 yX4_no wsX4_no) := goodIn_app (goodIn_r _ [9, 10, 11, 4] rfl (by decide +kernel)) ggX4_more_X4_no
set_option maxRecDepth 20000 in
theorem ggX4_more_X4_nestIn : GoodIn wsX4_more wsX4_nestIn := goodIn_r _ [16, 17, 18, 4, 19, 20, 21, 22] rfl (by decide +kernel)
set_option maxRecDepth 20000 in
theorem gX4_more_X4_nestIn : GoodIn wsX4_more (va_wsS RX4 72 yX4_nestIn wsX4_nestIn) := goodIn_app (goodIn_r _ [14, 15, 4] rfl (by decide +kernel)) ggX4_more_X4_nestIn
set_option maxRecDepth 20000 in
theorem ggX4_more_X4_ofHer : GoodIn wsX4_more wsX4_ofHer := goodIn_r _ [19, 20, 21, 4, 22] rfl (by decide +kernel)
set_option maxRecDepth 20000 in
theorem gX4_more_X4_ofHer : GoodIn wsX4_more (va_wsS RX4 65 yX4_ofHer wsX4_ofHer) := goodIn_app (goodIn_r _ [17, 18, 4] rfl (by decide +kernel)) ggX4_more_X4_ofHer
set_option maxRecDepth 20000 in
theorem ggX4_more_X4_bits : GoodIn wsX4_more wsX4_bits := goodIn_r _ [25] rfl (by decide +kernel)
set_option maxRecDepth 20000 in
theorem gX4_more_X4_bits : GoodIn wsX4_more (va_wsS RX4 96 yX4_bits wsX4_bits) := goodIn_app (goodIn_r _ [23, 24, 4] rfl (by decide +kernel)) ggX4_more_X4_bits
set_option maxRecDepth 20000 in
theorem ggX4_more_X4_holdsSet : GoodIn wsX4_more wsX4_holdsSet := goodIn_r _ [28, 29, 30, 4, 31, 32, 33, 34, 35, 36, 37, 38, 39, 40, 20, 21, 22, 41, 42, 43, 44, 45, 46] rfl (by decide +kernel)
set_option maxRecDepth 20000 in
theorem gX4_more_X4_holdsSet : GoodIn wsX4_more (va_wsS RX4 85 yX4_holdsSet wsX4_holdsSet) := goodIn_app (goodIn_r _ [26, 27, 4] rfl (by decide +kernel)) ggX4_more_X4_holdsSet
set_option maxRecDepth 20000 in
theorem ggX4_softest_X4_isWoman : GoodIn wsX4_softest wsX4_isWoman := goodIn_r _ [5, 6, 7, 4, 8] rfl (by decide +kernel)
set_option maxRecDepth 20000 in
theorem gX4_softest_X4_isWoman : GoodIn wsX4_softest (va_wsS RX4 120 yX4_isWoman wsX4_isWoman) := goodIn_app (goodIn_r _ [2, 3, 4] rfl (by decide +kernel)) ggX4_softest_X4_isWoman
set_option maxRecDepth 20000 in
theorem ggX4_softest_X4_no : GoodIn wsX4_softest wsX4_no := goodIn_r _ [12, 13, 44, 45, 46, 47, 48, 49, 50, 51, 52, 53, 54, 55, 56] rfl (by decide +kernel)
set_option maxRecDepth 20000 in
theorem gX4_softest_X4_no : GoodIn wsX4_softest (wsV RX4 36 RX4 yX4_no wsX4_no) := goodIn_app (goodIn_r _ [9, 10, 11, 4] rfl (by decide +kernel)) ggX4_softest_X4_no
set_option maxRecDepth 20000 in
theorem ggX4_softest_X4_isIn : GoodIn wsX4_softest wsX4_isIn := goodIn_r _ [8] rfl (by decide +kernel)
set_option maxRecDepth 20000 in
theorem gX4_softest_X4_isIn : GoodIn wsX4_softest (va_wsS RX4 40 yX4_isIn wsX4_isIn) := goodIn_app (goodIn_r _ [6, 7, 4] rfl (by decide +kernel)) ggX4_softest_X4_isIn
set_option maxRecDepth 20000 in
theorem ggX4_softest_X4_nestIn : GoodIn wsX4_softest wsX4_nestIn := goodIn_r _ [16, 17, 18, 4, 19, 20, 21, 22] rfl (by decide +kernel)
set_option maxRecDepth 20000 in
theorem gX4_softest_X4_nestIn : GoodIn wsX4_softest (va_wsS RX4 72 yX4_nestIn wsX4_nestIn) := goodIn_app (goodIn_r _ [14, 15, 4] rfl (by decide +kernel)) ggX4_softest_X4_nestIn
set_option maxRecDepth 20000 in
theorem ggX4_softest_X4_ofHer : GoodIn wsX4_softest wsX4_ofHer := goodIn_r _ [19, 20, 21, 4, 22] rfl (by decide +kernel)
set_option maxRecDepth 20000 in
theorem gX4_softest_X4_ofHer : GoodIn wsX4_softest (va_wsS RX4 65 yX4_ofHer wsX4_ofHer) := goodIn_app (goodIn_r _ [17, 18, 4] rfl (by decide +kernel)) ggX4_softest_X4_ofHer
set_option maxRecDepth 20000 in
theorem ggX4_softest_X4_sumOf : GoodIn wsX4_softest wsX4_sumOf := goodIn_r _ [25, 26, 27, 4, 28, 29, 30, 31, 32, 33, 34, 20, 21, 22, 35, 36, 37, 38, 39, 40] rfl (by decide +kernel)
set_option maxRecDepth 20000 in
theorem gX4_softest_X4_sumOf : GoodIn wsX4_softest (va_wsS RX4 69 yX4_sumOf wsX4_sumOf) := goodIn_app (goodIn_r _ [23, 24, 4] rfl (by decide +kernel)) ggX4_softest_X4_sumOf
set_option maxRecDepth 20000 in
theorem ggX4_softest_X4_holdsSet : GoodIn wsX4_softest wsX4_holdsSet := goodIn_r _ [43, 23, 24, 4, 25, 26, 27, 28, 29, 30, 31, 32, 33, 34, 20, 21, 22, 35, 36, 37, 38, 39, 40] rfl (by decide +kernel)
set_option maxRecDepth 20000 in
theorem gX4_softest_X4_holdsSet : GoodIn wsX4_softest (va_wsS RX4 85 yX4_holdsSet wsX4_holdsSet) := goodIn_app (goodIn_r _ [41, 42, 4] rfl (by decide +kernel)) ggX4_softest_X4_holdsSet
set_option maxRecDepth 20000 in
theorem ggX4_prop_X4_isWoman : GoodIn wsX4_prop wsX4_isWoman := goodIn_r _ [5, 6, 7, 4, 8] rfl (by decide +kernel)
set_option maxRecDepth 20000 in
theorem gX4_prop_X4_isWoman : GoodIn wsX4_prop (va_wsS RX4 120 yX4_isWoman wsX4_isWoman) := goodIn_app (goodIn_r _ [2, 3, 4] rfl (by decide +kernel)) ggX4_prop_X4_isWoman
set_option maxRecDepth 20000 in
theorem ggX4_prop_X4_no : GoodIn wsX4_prop wsX4_no := goodIn_r _ [12, 13, 44, 45, 46, 47, 48, 49, 50, 51, 52, 53, 54, 55, 56] rfl (by decide +kernel)
set_option maxRecDepth 20000 in
theorem gX4_prop_X4_no : GoodIn wsX4_prop (wsV RX4 36 RX4 yX4_no wsX4_no) := goodIn_app (goodIn_r _ [9, 10, 11, 4] rfl (by decide +kernel)) ggX4_prop_X4_no
set_option maxRecDepth 20000 in
theorem ggX4_prop_X4_nestIn : GoodIn wsX4_prop wsX4_nestIn := goodIn_r _ [16, 17, 18, 4, 19, 20, 21, 22] rfl (by decide +kernel)
set_option maxRecDepth 20000 in
theorem gX4_prop_X4_nestIn : GoodIn wsX4_prop (va_wsS RX4 72 yX4_nestIn wsX4_nestIn) := goodIn_app (goodIn_r _ [14, 15, 4] rfl (by decide +kernel)) ggX4_prop_X4_nestIn
set_option maxRecDepth 20000 in
theorem ggX4_prop_X4_has : GoodIn wsX4_prop wsX4_has := goodIn_r _ [25] rfl (by decide +kernel)
set_option maxRecDepth 20000 in
theorem gX4_prop_X4_has : GoodIn wsX4_prop (va_wsS RX4 52 yX4_has wsX4_has) := goodIn_app (goodIn_r _ [23, 24, 4] rfl (by decide +kernel)) ggX4_prop_X4_has
set_option maxRecDepth 20000 in
theorem ggX4_prop_X4_holdsSet : GoodIn wsX4_prop wsX4_holdsSet := goodIn_r _ [28, 29, 30, 4, 31, 23, 24, 25, 32, 33, 34, 35, 36, 37, 20, 21, 22, 38, 39, 40, 41, 42, 43] rfl (by decide +kernel)
set_option maxRecDepth 20000 in
theorem gX4_prop_X4_holdsSet : GoodIn wsX4_prop (va_wsS RX4 85 yX4_holdsSet wsX4_holdsSet) := goodIn_app (goodIn_r _ [26, 27, 4] rfl (by decide +kernel)) ggX4_prop_X4_holdsSet
set_option maxRecDepth 20000 in
theorem ggX4_lighten_X4_isWoman : GoodIn wsX4_lighten wsX4_isWoman := goodIn_r _ [5, 6, 7, 4, 8] rfl (by decide +kernel)
set_option maxRecDepth 20000 in
theorem gX4_lighten_X4_isWoman : GoodIn wsX4_lighten (va_wsS RX4 120 yX4_isWoman wsX4_isWoman) := goodIn_app (goodIn_r _ [2, 3, 4] rfl (by decide +kernel)) ggX4_lighten_X4_isWoman
set_option maxRecDepth 20000 in
theorem ggX4_lighten_X4_no : GoodIn wsX4_lighten wsX4_no := goodIn_r _ [12, 13, 47, 48, 49, 50, 51, 52, 53, 54, 55, 56, 57, 58, 59] rfl (by decide +kernel)
set_option maxRecDepth 20000 in
theorem gX4_lighten_X4_no : GoodIn wsX4_lighten (wsV RX4 36 RX4 yX4_no wsX4_no) := goodIn_app (goodIn_r _ [9, 10, 11, 4] rfl (by decide +kernel)) ggX4_lighten_X4_no
set_option maxRecDepth 20000 in
theorem ggX4_lighten_X4_nestIn : GoodIn wsX4_lighten wsX4_nestIn := goodIn_r _ [16, 17, 18, 4, 19, 20, 21, 22] rfl (by decide +kernel)
set_option maxRecDepth 20000 in
theorem gX4_lighten_X4_nestIn : GoodIn wsX4_lighten (va_wsS RX4 72 yX4_nestIn wsX4_nestIn) := goodIn_app (goodIn_r _ [14, 15, 4] rfl (by decide +kernel)) ggX4_lighten_X4_nestIn
set_option maxRecDepth 20000 in
theorem ggX4_lighten_X4_bits : GoodIn wsX4_lighten wsX4_bits := goodIn_r _ [25] rfl (by decide +kernel)
set_option maxRecDepth 20000 in
theorem gX4_lighten_X4_bits : GoodIn wsX4_lighten (va_wsS RX4 96 yX4_bits wsX4_bits) := goodIn_app (goodIn_r _ [23, 24, 4] rfl (by decide +kernel)) ggX4_lighten_X4_bits
set_option maxRecDepth 20000 in
theorem ggX4_lighten_X4_holdsSet : GoodIn wsX4_lighten wsX4_holdsSet := goodIn_r _ [28, 29, 30, 4, 31, 32, 33, 34, 35, 36, 37, 38, 39, 40, 20, 21, 22, 41, 42, 43, 44, 45, 46] rfl (by decide +kernel)
set_option maxRecDepth 20000 in
theorem gX4_lighten_X4_holdsSet : GoodIn wsX4_lighten (va_wsS RX4 85 yX4_holdsSet wsX4_holdsSet) := goodIn_app (goodIn_r _ [26, 27, 4] rfl (by decide +kernel)) ggX4_lighten_X4_holdsSet
set_option maxRecDepth 20000 in
theorem ggX4_about_X4_isSaying : GoodIn wsX4_about wsX4_isSaying := goodIn_r _ [6, 1, 7, 8, 5, 9, 45, 46, 47, 48, 49, 50, 51, 52, 53, 54, 55, 56, 57] rfl (by decide +kernel)
set_option maxRecDepth 20000 in
theorem gX4_about_X4_isSaying : GoodIn wsX4_about (wsV RX4 128 RX4 yX4_isSaying wsX4_isSaying) := goodIn_app (goodIn_r _ [2, 3, 4, 5] rfl (by decide +kernel)) ggX4_about_X4_isSaying
set_option maxRecDepth 20000 in
theorem ggX4_about_X4_no : GoodIn wsX4_about wsX4_no := goodIn_r _ [13, 14, 45, 46, 47, 48, 49, 50, 51, 52, 53, 54, 55, 56, 57] rfl (by decide +kernel)
set_option maxRecDepth 20000 in
theorem gX4_about_X4_no : GoodIn wsX4_about (wsV RX4 36 RX4 yX4_no wsX4_no) := goodIn_app (goodIn_r _ [10, 11, 12, 5] rfl (by decide +kernel)) ggX4_about_X4_no
set_option maxRecDepth 20000 in
theorem ggX4_about_X4_isIn : GoodIn wsX4_about wsX4_isIn := goodIn_r _ [9] rfl (by decide +kernel)
set_option maxRecDepth 20000 in
theorem gX4_about_X4_isIn : GoodIn wsX4_about (va_wsS RX4 40 yX4_isIn wsX4_isIn) := goodIn_app (goodIn_r _ [7, 8, 5] rfl (by decide +kernel)) ggX4_about_X4_isIn
set_option maxRecDepth 20000 in
theorem ggX4_about_X4_nestIn : GoodIn wsX4_about wsX4_nestIn := goodIn_r _ [17, 18, 19, 5, 20, 21, 22, 23] rfl (by decide +kernel)
set_option maxRecDepth 20000 in
theorem gX4_about_X4_nestIn : GoodIn wsX4_about (va_wsS RX4 72 yX4_nestIn wsX4_nestIn) := goodIn_app (goodIn_r _ [15, 16, 5] rfl (by decide +kernel)) ggX4_about_X4_nestIn
set_option maxRecDepth 20000 in
theorem ggX4_about_X4_holdsSet : GoodIn wsX4_about wsX4_holdsSet := goodIn_r _ [26, 27, 28, 5, 29, 30, 31, 32, 33, 34, 35, 36, 37, 38, 21, 22, 23, 39, 40, 41, 42, 43, 44] rfl (by decide +kernel)
set_option maxRecDepth 20000 in
theorem gX4_about_X4_holdsSet : GoodIn wsX4_about (va_wsS RX4 85 yX4_holdsSet wsX4_holdsSet) := goodIn_app (goodIn_r _ [24, 25, 5] rfl (by decide +kernel)) ggX4_about_X4_holdsSet
set_option maxRecDepth 20000 in
theorem ggX4_about_X4_sumOf : GoodIn wsX4_about wsX4_sumOf := goodIn_r _ [29, 30, 31, 5, 32, 33, 34, 35, 36, 37, 38, 21, 22, 23, 39, 40, 41, 42, 43, 44] rfl (by decide +kernel)
set_option maxRecDepth 20000 in
theorem gX4_about_X4_sumOf : GoodIn wsX4_about (va_wsS RX4 69 yX4_sumOf wsX4_sumOf) := goodIn_app (goodIn_r _ [27, 28, 5] rfl (by decide +kernel)) ggX4_about_X4_sumOf
set_option maxRecDepth 20000 in
theorem ggX4_known_X4_nestIn : GoodIn wsX4_known wsX4_nestIn := goodIn_r _ [5, 6, 7, 4, 8, 9, 10, 11] rfl (by decide +kernel)
set_option maxRecDepth 20000 in
theorem gX4_known_X4_nestIn : GoodIn wsX4_known (va_wsS RX4 72 yX4_nestIn wsX4_nestIn) := goodIn_app (goodIn_r _ [2, 3, 4] rfl (by decide +kernel)) ggX4_known_X4_nestIn
set_option maxRecDepth 20000 in
theorem ggX4_known_X4_ofHer : GoodIn wsX4_known wsX4_ofHer := goodIn_r _ [8, 9, 10, 4, 11] rfl (by decide +kernel)
set_option maxRecDepth 20000 in
theorem gX4_known_X4_ofHer : GoodIn wsX4_known (va_wsS RX4 65 yX4_ofHer wsX4_ofHer) := goodIn_app (goodIn_r _ [6, 7, 4] rfl (by decide +kernel)) ggX4_known_X4_ofHer
set_option maxRecDepth 20000 in
theorem ggX4_known_X4_bits : GoodIn wsX4_known wsX4_bits := goodIn_r _ [14] rfl (by decide +kernel)
set_option maxRecDepth 20000 in
theorem gX4_known_X4_bits : GoodIn wsX4_known (va_wsS RX4 96 yX4_bits wsX4_bits) := goodIn_app (goodIn_r _ [12, 13, 4] rfl (by decide +kernel)) ggX4_known_X4_bits
set_option maxRecDepth 20000 in
theorem ggX4_lodge_X4_nestIn : GoodIn wsX4_lodge wsX4_nestIn := goodIn_r _ [5, 6, 7, 4, 8, 9, 10, 11] rfl (by decide +kernel)
set_option maxRecDepth 20000 in
theorem gX4_lodge_X4_nestIn : GoodIn wsX4_lodge (va_wsS RX4 72 yX4_nestIn wsX4_nestIn) := goodIn_app (goodIn_r _ [2, 3, 4] rfl (by decide +kernel)) ggX4_lodge_X4_nestIn
set_option maxRecDepth 20000 in
theorem ggX4_lodge_X4_holdsSet : GoodIn wsX4_lodge wsX4_holdsSet := goodIn_r _ [14, 15, 16, 4, 17, 18, 19, 20, 21, 22, 23, 24, 25, 26, 9, 10, 11, 27, 28, 29, 30, 31, 32] rfl (by decide +kernel)
set_option maxRecDepth 20000 in
theorem gX4_lodge_X4_holdsSet : GoodIn wsX4_lodge (va_wsS RX4 85 yX4_holdsSet wsX4_holdsSet) := goodIn_app (goodIn_r _ [12, 13, 4] rfl (by decide +kernel)) ggX4_lodge_X4_holdsSet
set_option maxRecDepth 20000 in
theorem ggX4_lodge_X4_sumOf : GoodIn wsX4_lodge wsX4_sumOf := goodIn_r _ [17, 18, 19, 4, 20, 21, 22, 23, 24, 25, 26, 9, 10, 11, 27, 28, 29, 30, 31, 32] rfl (by decide +kernel)
set_option maxRecDepth 20000 in
theorem gX4_lodge_X4_sumOf : GoodIn wsX4_lodge (va_wsS RX4 69 yX4_sumOf wsX4_sumOf) := goodIn_app (goodIn_r _ [15, 16, 4] rfl (by decide +kernel)) ggX4_lodge_X4_sumOf
set_option maxRecDepth 20000 in
theorem ggX4_fullest_X4_nestIn : GoodIn wsX4_fullest wsX4_nestIn := goodIn_r _ [5, 6, 7, 4, 8, 9, 10, 11] rfl (by decide +kernel)
set_option maxRecDepth 20000 in
theorem gX4_fullest_X4_nestIn : GoodIn wsX4_fullest (va_wsS RX4 72 yX4_nestIn wsX4_nestIn) := goodIn_app (goodIn_r _ [2, 3, 4] rfl (by decide +kernel)) ggX4_fullest_X4_nestIn
set_option maxRecDepth 20000 in
theorem ggX4_fullest_X4_bits : GoodIn wsX4_fullest wsX4_bits := goodIn_r _ [14] rfl (by decide +kernel)
set_option maxRecDepth 20000 in
theorem gX4_fullest_X4_bits : GoodIn wsX4_fullest (va_wsS RX4 96 yX4_bits wsX4_bits) := goodIn_app (goodIn_r _ [12, 13, 4] rfl (by decide +kernel)) ggX4_fullest_X4_bits
set_option maxRecDepth 20000 in
theorem ggX4_talk_X4_inNests : GoodIn wsX4_talk wsX4_inNests := goodIn_r _ [5, 6, 7, 4, 8] rfl (by decide +kernel)
set_option maxRecDepth 20000 in
theorem gX4_talk_X4_inNests : GoodIn wsX4_talk (va_wsS RX4 157 yX4_inNests wsX4_inNests) := goodIn_app (goodIn_r _ [2, 3, 4] rfl (by decide +kernel)) ggX4_talk_X4_inNests
set_option maxRecDepth 20000 in
theorem ggX4_keep_X4_wrongBy : GoodIn wsX4_keep wsX4_wrongBy := goodIn_r _ [6] rfl (by decide +kernel)
set_option maxRecDepth 20000 in
theorem gX4_keep_X4_wrongBy : GoodIn wsX4_keep (va_wsS RX4 147 yX4_wrongBy wsX4_wrongBy) := goodIn_app (goodIn_r _ [3, 4, 5] rfl (by decide +kernel)) ggX4_keep_X4_wrongBy
set_option maxRecDepth 20000 in
theorem ggX4_keep_X4_no : GoodIn wsX4_keep wsX4_no := goodIn_r _ [10, 11, 70, 71, 72, 73, 74, 75, 76, 77, 78, 79, 80, 81, 82] rfl (by decide +kernel)
set_option maxRecDepth 20000 in
theorem gX4_keep_X4_no : GoodIn wsX4_keep (wsV RX4 36 RX4 yX4_no wsX4_no) := goodIn_app (goodIn_r _ [7, 8, 9, 5] rfl (by decide +kernel)) ggX4_keep_X4_no
set_option maxRecDepth 20000 in
theorem ggX4_keep_X4_takesOn : GoodIn wsX4_keep wsX4_takesOn := goodIn_r _ [15, 1, 2, 16, 17, 5, 18, 19, 20, 21, 22, 23, 24, 25, 26, 27, 28, 29, 30, 31, 32, 33, 34, 35, 36, 37, 38, 39, 40, 41, 42, 43, 44, 45, 46, 47, 48, 49, 50, 51, 52, 53, 54, 55, 56, 57, 58, 59, 60, 61, 62, 63, 64, 65, 66, 67, 68, 69, 70, 71, 72, 73, 74, 75, 76, 77, 78, 79, 80, 81, 82] rfl (by decide +kernel)
set_option maxRecDepth 20000 in
theorem gX4_keep_X4_takesOn : GoodIn wsX4_keep (wsV RX4 151 RX4 yX4_takesOn wsX4_takesOn) := goodIn_app (goodIn_r _ [12, 13, 14, 5] rfl (by decide +kernel)) ggX4_keep_X4_takesOn
set_option maxRecDepth 20000 in
theorem ggX4_keep_X4_copies : GoodIn wsX4_keep wsX4_copies := goodIn_r _ [18] rfl (by decide +kernel)
set_option maxRecDepth 20000 in
theorem gX4_keep_X4_copies : GoodIn wsX4_keep (va_wsS RX4 137 yX4_copies wsX4_copies) := goodIn_app (goodIn_r _ [16, 17, 5] rfl (by decide +kernel)) ggX4_keep_X4_copies
set_option maxRecDepth 20000 in
theorem ggX4_keep_X4_daysOn : GoodIn wsX4_keep wsX4_daysOn := goodIn_r _ [21, 22, 23, 5, 24, 25, 26, 27, 28, 29, 30, 31, 32, 33, 34, 35, 36, 37, 38, 39, 40, 41, 42, 43, 44, 45, 46, 47, 48, 49, 50, 51, 52, 53, 54, 55, 56, 57, 58, 59, 60, 61, 62, 63, 64, 65, 66, 67, 68, 69] rfl (by decide +kernel)
set_option maxRecDepth 20000 in
theorem gX4_keep_X4_daysOn : GoodIn wsX4_keep (va_wsS RX4 131 yX4_daysOn wsX4_daysOn) := goodIn_app (goodIn_r _ [19, 20, 5] rfl (by decide +kernel)) ggX4_keep_X4_daysOn
set_option maxRecDepth 20000 in
theorem ggX4_hush_X4_wrongBy : GoodIn wsX4_hush wsX4_wrongBy := goodIn_r _ [6] rfl (by decide +kernel)
set_option maxRecDepth 20000 in
theorem gX4_hush_X4_wrongBy : GoodIn wsX4_hush (va_wsS RX4 147 yX4_wrongBy wsX4_wrongBy) := goodIn_app (goodIn_r _ [3, 4, 5] rfl (by decide +kernel)) ggX4_hush_X4_wrongBy
set_option maxRecDepth 20000 in
theorem ggX4_hush_X4_no : GoodIn wsX4_hush wsX4_no := goodIn_r _ [10, 11, 70, 71, 72, 73, 74, 75, 76, 77, 78, 79, 80, 81, 82] rfl (by decide +kernel)
set_option maxRecDepth 20000 in
theorem gX4_hush_X4_no : GoodIn wsX4_hush (wsV RX4 36 RX4 yX4_no wsX4_no) := goodIn_app (goodIn_r _ [7, 8, 9, 5] rfl (by decide +kernel)) ggX4_hush_X4_no
set_option maxRecDepth 20000 in
theorem ggX4_hush_X4_takesOn : GoodIn wsX4_hush wsX4_takesOn := goodIn_r _ [15, 1, 2, 16, 17, 5, 18, 19, 20, 21, 22, 23, 24, 25, 26, 27, 28, 29, 30, 31, 32, 33, 34, 35, 36, 37, 38, 39, 40, 41, 42, 43, 44, 45, 46, 47, 48, 49, 50, 51, 52, 53, 54, 55, 56, 57, 58, 59, 60, 61, 62, 63, 64, 65, 66, 67, 68, 69, 70, 71, 72, 73, 74, 75, 76, 77, 78, 79, 80, 81, 82] rfl (by decide +kernel)
set_option maxRecDepth 20000 in
theorem gX4_hush_X4_takesOn : GoodIn wsX4_hush (wsV RX4 151 RX4 yX4_takesOn wsX4_takesOn) := goodIn_app (goodIn_r _ [12, 13, 14, 5] rfl (by decide +kernel)) ggX4_hush_X4_takesOn
set_option maxRecDepth 20000 in
theorem ggX4_hush_X4_copies : GoodIn wsX4_hush wsX4_copies := goodIn_r _ [18] rfl (by decide +kernel)
set_option maxRecDepth 20000 in
theorem gX4_hush_X4_copies : GoodIn wsX4_hush (va_wsS RX4 137 yX4_copies wsX4_copies) := goodIn_app (goodIn_r _ [16, 17, 5] rfl (by decide +kernel)) ggX4_hush_X4_copies
set_option maxRecDepth 20000 in
theorem ggX4_hush_X4_of : GoodIn wsX4_hush wsX4_of := goodIn_r _ [30] rfl (by decide +kernel)
set_option maxRecDepth 20000 in
theorem gX4_hush_X4_of : GoodIn wsX4_hush (va_wsS RX4 44 yX4_of wsX4_of) := goodIn_app (goodIn_r _ [28, 29, 5] rfl (by decide +kernel)) ggX4_hush_X4_of
set_option maxRecDepth 20000 in
theorem ggX4_hush_X4_daysOn : GoodIn wsX4_hush wsX4_daysOn := goodIn_r _ [21, 22, 23, 5, 24, 25, 26, 27, 28, 29, 30, 31, 32, 33, 34, 35, 36, 37, 38, 39, 40, 41, 42, 43, 44, 45, 46, 47, 48, 49, 50, 51, 52, 53, 54, 55, 56, 57, 58, 59, 60, 61, 62, 63, 64, 65, 66, 67, 68, 69] rfl (by decide +kernel)
set_option maxRecDepth 20000 in
theorem gX4_hush_X4_daysOn : GoodIn wsX4_hush (va_wsS RX4 131 yX4_daysOn wsX4_daysOn) := goodIn_app (goodIn_r _ [19, 20, 5] rfl (by decide +kernel)) ggX4_hush_X4_daysOn
set_option maxRecDepth 20000 in
theorem ggX4_add_X4_isWoman : GoodIn wsX4_add wsX4_isWoman := goodIn_r _ [6, 7, 8, 5, 9] rfl (by decide +kernel)
set_option maxRecDepth 20000 in
theorem gX4_add_X4_isWoman : GoodIn wsX4_add (va_wsS RX4 120 yX4_isWoman wsX4_isWoman) := goodIn_app (goodIn_r _ [3, 4, 5] rfl (by decide +kernel)) ggX4_add_X4_isWoman
set_option maxRecDepth 20000 in
theorem ggX4_add_X4_wrongBy : GoodIn wsX4_add wsX4_wrongBy := goodIn_r _ [12] rfl (by decide +kernel)
set_option maxRecDepth 20000 in
theorem gX4_add_X4_wrongBy : GoodIn wsX4_add (va_wsS RX4 147 yX4_wrongBy wsX4_wrongBy) := goodIn_app (goodIn_r _ [10, 11, 5] rfl (by decide +kernel)) ggX4_add_X4_wrongBy
set_option maxRecDepth 20000 in
theorem ggX4_add_X4_isIn : GoodIn wsX4_add wsX4_isIn := goodIn_r _ [9] rfl (by decide +kernel)
set_option maxRecDepth 20000 in
theorem gX4_add_X4_isIn : GoodIn wsX4_add (va_wsS RX4 40 yX4_isIn wsX4_isIn) := goodIn_app (goodIn_r _ [7, 8, 5] rfl (by decide +kernel)) ggX4_add_X4_isIn
set_option maxRecDepth 20000 in
theorem ggX4_add_X4_no : GoodIn wsX4_add wsX4_no := goodIn_r _ [16, 17, 75, 76, 77, 78, 79, 80, 81, 82, 83, 84, 85, 86, 87] rfl (by decide +kernel)
set_option maxRecDepth 20000 in
theorem gX4_add_X4_no : GoodIn wsX4_add (wsV RX4 36 RX4 yX4_no wsX4_no) := goodIn_app (goodIn_r _ [13, 14, 15, 5] rfl (by decide +kernel)) ggX4_add_X4_no
set_option maxRecDepth 20000 in
theorem ggX4_add_X4_copies : GoodIn wsX4_add wsX4_copies := goodIn_r _ [20] rfl (by decide +kernel)
set_option maxRecDepth 20000 in
theorem gX4_add_X4_copies : GoodIn wsX4_add (va_wsS RX4 137 yX4_copies wsX4_copies) := goodIn_app (goodIn_r _ [18, 19, 5] rfl (by decide +kernel)) ggX4_add_X4_copies
set_option maxRecDepth 20000 in
theorem ggX4_add_X4_adds : GoodIn wsX4_add wsX4_adds := goodIn_r _ [23, 24, 25, 5, 26] rfl (by decide +kernel)
set_option maxRecDepth 20000 in
theorem gX4_add_X4_adds : GoodIn wsX4_add (va_wsS RX4 124 yX4_adds wsX4_adds) := goodIn_app (goodIn_r _ [21, 22, 5] rfl (by decide +kernel)) ggX4_add_X4_adds
set_option maxRecDepth 20000 in
theorem ggX4_add_X4_daysOn : GoodIn wsX4_add wsX4_daysOn := goodIn_r _ [29, 30, 31, 5, 32, 33, 34, 35, 24, 25, 26, 36, 37, 38, 39, 40, 41, 42, 43, 44, 45, 46, 47, 48, 49, 50, 51, 52, 53, 54, 55, 56, 57, 58, 59, 60, 61, 62, 63, 64, 65, 66, 67, 68, 69, 70, 71, 72, 73, 74] rfl (by decide +kernel)
set_option maxRecDepth 20000 in
theorem gX4_add_X4_daysOn : GoodIn wsX4_add (va_wsS RX4 131 yX4_daysOn wsX4_daysOn) := goodIn_app (goodIn_r _ [27, 28, 5] rfl (by decide +kernel)) ggX4_add_X4_daysOn
set_option maxRecDepth 20000 in
theorem ggX4_add_X4_nestIn : GoodIn wsX4_add wsX4_nestIn := goodIn_r _ [44, 45, 46, 5, 47, 24, 25, 26] rfl (by decide +kernel)
set_option maxRecDepth 20000 in
theorem gX4_add_X4_nestIn : GoodIn wsX4_add (va_wsS RX4 72 yX4_nestIn wsX4_nestIn) := goodIn_app (goodIn_r _ [42, 43, 5] rfl (by decide +kernel)) ggX4_add_X4_nestIn
set_option maxRecDepth 20000 in
theorem ggX4_add_X4_sumOf : GoodIn wsX4_add wsX4_sumOf := goodIn_r _ [53, 54, 55, 5, 56, 57, 58, 59, 60, 61, 62, 24, 25, 26, 63, 64, 65, 66, 67, 68] rfl (by decide +kernel)
set_option maxRecDepth 20000 in
theorem gX4_add_X4_sumOf : GoodIn wsX4_add (va_wsS RX4 69 yX4_sumOf wsX4_sumOf) := goodIn_app (goodIn_r _ [51, 52, 5] rfl (by decide +kernel)) ggX4_add_X4_sumOf
set_option maxRecDepth 20000 in
theorem ggX4_softerBy_X4_copies : GoodIn wsX4_softerBy wsX4_copies := goodIn_r _ [6] rfl (by decide +kernel)
set_option maxRecDepth 20000 in
theorem gX4_softerBy_X4_copies : GoodIn wsX4_softerBy (va_wsS RX4 137 yX4_copies wsX4_copies) := goodIn_app (goodIn_r _ [3, 4, 5] rfl (by decide +kernel)) ggX4_softerBy_X4_copies
set_option maxRecDepth 20000 in
theorem ggX4_softerBy_X4_adds : GoodIn wsX4_softerBy wsX4_adds := goodIn_r _ [9, 10, 11, 5, 12] rfl (by decide +kernel)
set_option maxRecDepth 20000 in
theorem gX4_softerBy_X4_adds : GoodIn wsX4_softerBy (va_wsS RX4 124 yX4_adds wsX4_adds) := goodIn_app (goodIn_r _ [7, 8, 5] rfl (by decide +kernel)) ggX4_softerBy_X4_adds
set_option maxRecDepth 20000 in
theorem ggX4_softerBy_X4_daysOn : GoodIn wsX4_softerBy wsX4_daysOn := goodIn_r _ [15, 16, 17, 5, 18, 19, 20, 21, 10, 11, 12, 22, 23, 24, 25, 26, 27, 28, 29, 30, 31, 32, 33, 34, 35, 36, 37, 38, 39, 40, 41, 42, 43, 44, 45, 46, 47, 48, 49, 50, 51, 52, 53, 54, 55, 56, 57, 58, 59, 60] rfl (by decide +kernel)
set_option maxRecDepth 20000 in
theorem gX4_softerBy_X4_daysOn : GoodIn wsX4_softerBy (va_wsS RX4 131 yX4_daysOn wsX4_daysOn) := goodIn_app (goodIn_r _ [13, 14, 5] rfl (by decide +kernel)) ggX4_softerBy_X4_daysOn
set_option maxRecDepth 20000 in
theorem ggX4_softerBy_X4_nestIn : GoodIn wsX4_softerBy wsX4_nestIn := goodIn_r _ [30, 31, 32, 5, 33, 10, 11, 12] rfl (by decide +kernel)
set_option maxRecDepth 20000 in
theorem gX4_softerBy_X4_nestIn : GoodIn wsX4_softerBy (va_wsS RX4 72 yX4_nestIn wsX4_nestIn) := goodIn_app (goodIn_r _ [28, 29, 5] rfl (by decide +kernel)) ggX4_softerBy_X4_nestIn
set_option maxRecDepth 20000 in
theorem ggX4_softerBy_X4_sumOf : GoodIn wsX4_softerBy wsX4_sumOf := goodIn_r _ [39, 40, 41, 5, 42, 43, 44, 45, 46, 47, 48, 10, 11, 12, 49, 50, 51, 52, 53, 54] rfl (by decide +kernel)
set_option maxRecDepth 20000 in
theorem gX4_softerBy_X4_sumOf : GoodIn wsX4_softerBy (va_wsS RX4 69 yX4_sumOf wsX4_sumOf) := goodIn_app (goodIn_r _ [37, 38, 5] rfl (by decide +kernel)) ggX4_softerBy_X4_sumOf
set_option maxRecDepth 20000 in
theorem ggX4_two_X4_isWoman : GoodIn wsX4_two wsX4_isWoman := goodIn_r _ [4, 5, 6, 3, 7] rfl (by decide +kernel)
set_option maxRecDepth 20000 in
theorem gX4_two_X4_isWoman : GoodIn wsX4_two (va_wsS RX4 120 yX4_isWoman wsX4_isWoman) := goodIn_app (goodIn_r _ [1, 2, 3] rfl (by decide +kernel)) ggX4_two_X4_isWoman
set_option maxRecDepth 20000 in
theorem ggX4_two_X4_wrongBy : GoodIn wsX4_two wsX4_wrongBy := goodIn_r _ [10] rfl (by decide +kernel)
set_option maxRecDepth 20000 in
theorem gX4_two_X4_wrongBy : GoodIn wsX4_two (va_wsS RX4 147 yX4_wrongBy wsX4_wrongBy) := goodIn_app (goodIn_r _ [8, 9, 3] rfl (by decide +kernel)) ggX4_two_X4_wrongBy
set_option maxRecDepth 20000 in
theorem ggX4_two_X4_no : GoodIn wsX4_two wsX4_no := goodIn_r _ [14, 15, 79, 80, 81, 82, 83, 84, 85, 86, 87, 88, 89, 90, 91] rfl (by decide +kernel)
set_option maxRecDepth 20000 in
theorem gX4_two_X4_no : GoodIn wsX4_two (wsV RX4 36 RX4 yX4_no wsX4_no) := goodIn_app (goodIn_r _ [11, 12, 13, 3] rfl (by decide +kernel)) ggX4_two_X4_no
set_option maxRecDepth 20000 in
theorem ggX4_two_X4_softerBy : GoodIn wsX4_two wsX4_softerBy := goodIn_r _ [19, 20, 21, 22, 23, 3, 24, 25, 26, 27, 28, 29, 30, 31, 32, 33, 34, 35, 36, 37, 38, 39, 40, 41, 42, 43, 44, 45, 46, 47, 48, 49, 50, 51, 52, 53, 54, 55, 56, 57, 58, 59, 60, 61, 62, 63, 64, 65, 66, 67, 68, 69, 70, 71, 72, 73, 74, 75, 76, 77, 78, 79, 80, 81, 82, 83, 84, 85, 86, 87, 88, 89, 90, 91] rfl (by decide +kernel)
set_option maxRecDepth 20000 in
theorem gX4_two_X4_softerBy : GoodIn wsX4_two (wsV RX4 163 RX4 yX4_softerBy wsX4_softerBy) := goodIn_app (goodIn_r _ [16, 17, 18, 3] rfl (by decide +kernel)) ggX4_two_X4_softerBy
set_option maxRecDepth 20000 in
theorem ggX4_partOf_X4_gcd : GoodIn wsX4_partOf wsX4_gcd := goodIn_r _ [4] rfl (by decide +kernel)
set_option maxRecDepth 20000 in
theorem gX4_partOf_X4_gcd : GoodIn wsX4_partOf (va_wsS RX4 167 yX4_gcd wsX4_gcd) := goodIn_app (goodIn_r _ [1, 2, 3] rfl (by decide +kernel)) ggX4_partOf_X4_gcd
set_option maxRecDepth 20000 in
theorem ggX4_rains_X4_of : GoodIn wsX4_rains wsX4_of := goodIn_r _ [4] rfl (by decide +kernel)
set_option maxRecDepth 20000 in
theorem gX4_rains_X4_of : GoodIn wsX4_rains (va_wsS RX4 44 yX4_of wsX4_of) := goodIn_app (goodIn_r _ [1, 2, 3] rfl (by decide +kernel)) ggX4_rains_X4_of
set_option maxRecDepth 20000 in
theorem ggX4_rains_X4_wearsIn : GoodIn wsX4_rains wsX4_wearsIn := goodIn_r _ [7, 1, 2, 3, 4, 8, 9, 10] rfl (by decide +kernel)
set_option maxRecDepth 20000 in
theorem gX4_rains_X4_wearsIn : GoodIn wsX4_rains (va_wsS RX4 78 yX4_wearsIn wsX4_wearsIn) := goodIn_app (goodIn_r _ [5, 6, 3] rfl (by decide +kernel)) ggX4_rains_X4_wearsIn
set_option maxRecDepth 20000 in
theorem ggX4_rain_X4_isWoman : GoodIn wsX4_rain wsX4_isWoman := goodIn_r _ [6, 7, 8, 5, 9] rfl (by decide +kernel)
set_option maxRecDepth 20000 in
theorem gX4_rain_X4_isWoman : GoodIn wsX4_rain (va_wsS RX4 120 yX4_isWoman wsX4_isWoman) := goodIn_app (goodIn_r _ [3, 4, 5] rfl (by decide +kernel)) ggX4_rain_X4_isWoman
set_option maxRecDepth 20000 in
theorem ggX4_rain_X4_noWide : GoodIn wsX4_rain wsX4_noWide := goodIn_r _ [13, 14, 15, 16, 17, 5, 18, 19, 77, 78, 79, 80, 81, 82, 83, 84, 85, 86, 87, 88, 89] rfl (by decide +kernel)
set_option maxRecDepth 20000 in
theorem gX4_rain_X4_noWide : GoodIn wsX4_rain (wsV RX4 171 RX4 yX4_noWide wsX4_noWide) := goodIn_app (goodIn_r _ [10, 11, 12, 5] rfl (by decide +kernel)) ggX4_rain_X4_noWide
set_option maxRecDepth 20000 in
theorem ggX4_rain_X4_isIn : GoodIn wsX4_rain wsX4_isIn := goodIn_r _ [9] rfl (by decide +kernel)
set_option maxRecDepth 20000 in
theorem gX4_rain_X4_isIn : GoodIn wsX4_rain (va_wsS RX4 40 yX4_isIn wsX4_isIn) := goodIn_app (goodIn_r _ [7, 8, 5] rfl (by decide +kernel)) ggX4_rain_X4_isIn
set_option maxRecDepth 20000 in
theorem ggX4_rain_X4_copies : GoodIn wsX4_rain wsX4_copies := goodIn_r _ [22] rfl (by decide +kernel)
set_option maxRecDepth 20000 in
theorem gX4_rain_X4_copies : GoodIn wsX4_rain (va_wsS RX4 137 yX4_copies wsX4_copies) := goodIn_app (goodIn_r _ [20, 21, 5] rfl (by decide +kernel)) ggX4_rain_X4_copies
set_option maxRecDepth 20000 in
theorem ggX4_rain_X4_has : GoodIn wsX4_rain wsX4_has := goodIn_r _ [25] rfl (by decide +kernel)
set_option maxRecDepth 20000 in
theorem gX4_rain_X4_has : GoodIn wsX4_rain (va_wsS RX4 52 yX4_has wsX4_has) := goodIn_app (goodIn_r _ [23, 24, 5] rfl (by decide +kernel)) ggX4_rain_X4_has
set_option maxRecDepth 20000 in
theorem ggX4_rain_X4_rains : GoodIn wsX4_rain wsX4_rains := goodIn_r _ [28, 29, 30, 5, 31, 32, 33, 34, 35, 36, 37] rfl (by decide +kernel)
set_option maxRecDepth 20000 in
theorem gX4_rain_X4_rains : GoodIn wsX4_rain (va_wsS RX4 175 yX4_rains wsX4_rains) := goodIn_app (goodIn_r _ [26, 27, 5] rfl (by decide +kernel)) ggX4_rain_X4_rains
set_option maxRecDepth 20000 in
theorem ggX4_rain_X4_day : GoodIn wsX4_rain wsX4_day := goodIn_r _ [40, 32, 33, 5, 34, 29, 30, 31, 35, 36, 37, 41, 42, 43, 44, 45, 46, 47, 48, 49, 50, 51, 52, 53, 54, 55, 23, 24, 25, 56, 57, 58, 59, 60, 61, 62, 63, 64, 65, 66, 67, 68, 69, 70] rfl (by decide +kernel)
set_option maxRecDepth 20000 in
theorem gX4_rain_X4_day : GoodIn wsX4_rain (va_wsS RX4 92 yX4_day wsX4_day) := goodIn_app (goodIn_r _ [38, 39, 5] rfl (by decide +kernel)) ggX4_rain_X4_day
set_option maxRecDepth 20000 in
theorem ggX4_rain_X4_nestIn : GoodIn wsX4_rain wsX4_nestIn := goodIn_r _ [46, 47, 48, 5, 49, 29, 30, 31] rfl (by decide +kernel)
set_option maxRecDepth 20000 in
theorem gX4_rain_X4_nestIn : GoodIn wsX4_rain (va_wsS RX4 72 yX4_nestIn wsX4_nestIn) := goodIn_app (goodIn_r _ [44, 45, 5] rfl (by decide +kernel)) ggX4_rain_X4_nestIn
set_option maxRecDepth 20000 in
theorem ggX4_rain_X4_partOf : GoodIn wsX4_rain wsX4_partOf := goodIn_r _ [73, 74, 75, 5, 76] rfl (by decide +kernel)
set_option maxRecDepth 20000 in
theorem gX4_rain_X4_partOf : GoodIn wsX4_rain (va_wsS RX4 179 yX4_partOf wsX4_partOf) := goodIn_app (goodIn_r _ [71, 72, 5] rfl (by decide +kernel)) ggX4_rain_X4_partOf
set_option maxRecDepth 20000 in
theorem ggX4_softAll_X4_inNests : GoodIn wsX4_softAll wsX4_inNests := goodIn_r _ [4, 5, 6, 3, 7] rfl (by decide +kernel)
set_option maxRecDepth 20000 in
theorem gX4_softAll_X4_inNests : GoodIn wsX4_softAll (va_wsS RX4 157 yX4_inNests wsX4_inNests) := goodIn_app (goodIn_r _ [1, 2, 3] rfl (by decide +kernel)) ggX4_softAll_X4_inNests
set_option maxRecDepth 20000 in
theorem ggX4_softAll_X4_sumOf : GoodIn wsX4_softAll wsX4_sumOf := goodIn_r _ [10, 11, 12, 3, 13, 14, 15, 16, 17, 18, 19, 5, 6, 7, 20, 21, 22, 23, 24, 25] rfl (by decide +kernel)
set_option maxRecDepth 20000 in
theorem gX4_softAll_X4_sumOf : GoodIn wsX4_softAll (va_wsS RX4 69 yX4_sumOf wsX4_sumOf) := goodIn_app (goodIn_r _ [8, 9, 3] rfl (by decide +kernel)) ggX4_softAll_X4_sumOf
set_option maxRecDepth 20000 in
theorem ggX4_mean_X4_isIn : GoodIn wsX4_mean wsX4_isIn := goodIn_r _ [5] rfl (by decide +kernel)
set_option maxRecDepth 20000 in
theorem gX4_mean_X4_isIn : GoodIn wsX4_mean (va_wsS RX4 40 yX4_isIn wsX4_isIn) := goodIn_app (goodIn_r _ [2, 3, 4] rfl (by decide +kernel)) ggX4_mean_X4_isIn
set_option maxRecDepth 20000 in
theorem ggX4_mean_X4_noWide : GoodIn wsX4_mean wsX4_noWide := goodIn_r _ [9, 10, 11, 12, 13, 4, 14, 15, 55, 56, 57, 58, 59, 60, 61, 62, 63, 64, 65, 66, 67] rfl (by decide +kernel)
set_option maxRecDepth 20000 in
theorem gX4_mean_X4_noWide : GoodIn wsX4_mean (wsV RX4 171 RX4 yX4_noWide wsX4_noWide) := goodIn_app (goodIn_r _ [6, 7, 8, 4] rfl (by decide +kernel)) ggX4_mean_X4_noWide
set_option maxRecDepth 20000 in
theorem ggX4_mean_X4_nestIn : GoodIn wsX4_mean wsX4_nestIn := goodIn_r _ [18, 19, 20, 4, 21, 22, 23, 24] rfl (by decide +kernel)
set_option maxRecDepth 20000 in
theorem gX4_mean_X4_nestIn : GoodIn wsX4_mean (va_wsS RX4 72 yX4_nestIn wsX4_nestIn) := goodIn_app (goodIn_r _ [16, 17, 4] rfl (by decide +kernel)) ggX4_mean_X4_nestIn
set_option maxRecDepth 20000 in
theorem ggX4_mean_X4_softAll : GoodIn wsX4_mean wsX4_softAll := goodIn_r _ [27, 28, 29, 4, 30, 22, 23, 24, 31, 32, 33, 34, 35, 36, 37, 38, 39, 40, 41, 42, 43, 44, 45, 46, 47, 48] rfl (by decide +kernel)
set_option maxRecDepth 20000 in
theorem gX4_mean_X4_softAll : GoodIn wsX4_mean (va_wsS RX4 183 yX4_softAll wsX4_softAll) := goodIn_app (goodIn_r _ [25, 26, 4] rfl (by decide +kernel)) ggX4_mean_X4_softAll
set_option maxRecDepth 20000 in
theorem ggX4_mean_X4_partOf : GoodIn wsX4_mean wsX4_partOf := goodIn_r _ [51, 52, 53, 4, 54] rfl (by decide +kernel)
set_option maxRecDepth 20000 in
theorem gX4_mean_X4_partOf : GoodIn wsX4_mean (va_wsS RX4 179 yX4_partOf wsX4_partOf) := goodIn_app (goodIn_r _ [49, 50, 4] rfl (by decide +kernel)) ggX4_mean_X4_partOf
set_option maxRecDepth 20000 in
theorem ggX4_whatWas_X4_isSaying : GoodIn wsX4_whatWas wsX4_isSaying := goodIn_r _ [9, 1, 10, 11, 8, 12, 66, 67, 68, 69, 70, 71, 72, 73, 74, 75, 76, 77, 78] rfl (by decide +kernel)
set_option maxRecDepth 20000 in
theorem gX4_whatWas_X4_isSaying : GoodIn wsX4_whatWas (wsV RX4 128 RX4 yX4_isSaying wsX4_isSaying) := goodIn_app (goodIn_r _ [5, 6, 7, 8] rfl (by decide +kernel)) ggX4_whatWas_X4_isSaying
set_option maxRecDepth 20000 in
theorem ggX4_whatWas_X4_no : GoodIn wsX4_whatWas wsX4_no := goodIn_r _ [16, 17, 66, 67, 68, 69, 70, 71, 72, 73, 74, 75, 76, 77, 78] rfl (by decide +kernel)
set_option maxRecDepth 20000 in
theorem gX4_whatWas_X4_no : GoodIn wsX4_whatWas (wsV RX4 36 RX4 yX4_no wsX4_no) := goodIn_app (goodIn_r _ [13, 14, 15, 8] rfl (by decide +kernel)) ggX4_whatWas_X4_no
set_option maxRecDepth 20000 in
theorem ggX4_whatWas_X4_isIn : GoodIn wsX4_whatWas wsX4_isIn := goodIn_r _ [12] rfl (by decide +kernel)
set_option maxRecDepth 20000 in
theorem gX4_whatWas_X4_isIn : GoodIn wsX4_whatWas (va_wsS RX4 40 yX4_isIn wsX4_isIn) := goodIn_app (goodIn_r _ [10, 11, 8] rfl (by decide +kernel)) ggX4_whatWas_X4_isIn
set_option maxRecDepth 20000 in
theorem ggX4_whatWas_X4_of : GoodIn wsX4_whatWas wsX4_of := goodIn_r _ [20] rfl (by decide +kernel)
set_option maxRecDepth 20000 in
theorem gX4_whatWas_X4_of : GoodIn wsX4_whatWas (va_wsS RX4 44 yX4_of wsX4_of) := goodIn_app (goodIn_r _ [18, 19, 8] rfl (by decide +kernel)) ggX4_whatWas_X4_of
set_option maxRecDepth 20000 in
theorem ggX4_whatWas_X4_copies : GoodIn wsX4_whatWas wsX4_copies := goodIn_r _ [23] rfl (by decide +kernel)
set_option maxRecDepth 20000 in
theorem gX4_whatWas_X4_copies : GoodIn wsX4_whatWas (va_wsS RX4 137 yX4_copies wsX4_copies) := goodIn_app (goodIn_r _ [21, 22, 8] rfl (by decide +kernel)) ggX4_whatWas_X4_copies
set_option maxRecDepth 20000 in
theorem ggX4_whatWas_X4_nestIn : GoodIn wsX4_whatWas wsX4_nestIn := goodIn_r _ [26, 27, 28, 8, 29, 18, 19, 20] rfl (by decide +kernel)
set_option maxRecDepth 20000 in
theorem gX4_whatWas_X4_nestIn : GoodIn wsX4_whatWas (va_wsS RX4 72 yX4_nestIn wsX4_nestIn) := goodIn_app (goodIn_r _ [24, 25, 8] rfl (by decide +kernel)) ggX4_whatWas_X4_nestIn
set_option maxRecDepth 20000 in
theorem ggX4_whatWas_X4_sumOf : GoodIn wsX4_whatWas wsX4_sumOf := goodIn_r _ [32, 33, 34, 8, 35, 36, 37, 38, 39, 40, 41, 18, 19, 20, 42, 43, 44, 45, 46, 47] rfl (by decide +kernel)
set_option maxRecDepth 20000 in
theorem gX4_whatWas_X4_sumOf : GoodIn wsX4_whatWas (va_wsS RX4 69 yX4_sumOf wsX4_sumOf) := goodIn_app (goodIn_r _ [30, 31, 8] rfl (by decide +kernel)) ggX4_whatWas_X4_sumOf
set_option maxRecDepth 20000 in
theorem ggX4_whatWas_X4_day : GoodIn wsX4_whatWas wsX4_day := goodIn_r _ [50, 51, 52, 8, 53, 18, 19, 20, 54, 55, 56, 57, 58, 59, 24, 25, 26, 27, 28, 29, 60, 61, 62, 30, 31, 32, 33, 34, 35, 36, 37, 38, 39, 40, 41, 42, 43, 44, 45, 46, 47, 63, 64, 65] rfl (by decide +kernel)
set_option maxRecDepth 20000 in
theorem gX4_whatWas_X4_day : GoodIn wsX4_whatWas (va_wsS RX4 92 yX4_day wsX4_day) := goodIn_app (goodIn_r _ [48, 49, 8] rfl (by decide +kernel)) ggX4_whatWas_X4_day
set_option maxRecDepth 20000 in
theorem ggX4_row_X4_wrongBy : GoodIn wsX4_row wsX4_wrongBy := goodIn_r _ [6] rfl (by decide +kernel)
set_option maxRecDepth 20000 in
theorem gX4_row_X4_wrongBy : GoodIn wsX4_row (va_wsS RX4 147 yX4_wrongBy wsX4_wrongBy) := goodIn_app (goodIn_r _ [3, 4, 5] rfl (by decide +kernel)) ggX4_row_X4_wrongBy
set_option maxRecDepth 20000 in
theorem ggX4_row_X4_no : GoodIn wsX4_row wsX4_no := goodIn_r _ [10, 11, 12, 13, 14, 15, 16, 17, 18, 19, 20, 21, 22, 23, 24] rfl (by decide +kernel)
set_option maxRecDepth 20000 in
theorem gX4_row_X4_no : GoodIn wsX4_row (wsV RX4 36 RX4 yX4_no wsX4_no) := goodIn_app (goodIn_r _ [7, 8, 9, 5] rfl (by decide +kernel)) ggX4_row_X4_no
set_option maxRecDepth 20000 in
theorem ggX4_judge_X4_copies : GoodIn wsX4_judge wsX4_copies := goodIn_r _ [8] rfl (by decide +kernel)
set_option maxRecDepth 20000 in
theorem gX4_judge_X4_copies : GoodIn wsX4_judge (va_wsS RX4 137 yX4_copies wsX4_copies) := goodIn_app (goodIn_r _ [5, 6, 7] rfl (by decide +kernel)) ggX4_judge_X4_copies
set_option maxRecDepth 20000 in
theorem ggX4_judge_X4_inNests : GoodIn wsX4_judge wsX4_inNests := goodIn_r _ [11, 12, 13, 7, 14] rfl (by decide +kernel)
set_option maxRecDepth 20000 in
theorem gX4_judge_X4_inNests : GoodIn wsX4_judge (va_wsS RX4 157 yX4_inNests wsX4_inNests) := goodIn_app (goodIn_r _ [9, 10, 7] rfl (by decide +kernel)) ggX4_judge_X4_inNests
set_option maxRecDepth 20000 in
theorem ggX4_judge_X4_bits : GoodIn wsX4_judge wsX4_bits := goodIn_r _ [17] rfl (by decide +kernel)
set_option maxRecDepth 20000 in
theorem gX4_judge_X4_bits : GoodIn wsX4_judge (va_wsS RX4 96 yX4_bits wsX4_bits) := goodIn_app (goodIn_r _ [15, 16, 7] rfl (by decide +kernel)) ggX4_judge_X4_bits
set_option maxRecDepth 20000 in
theorem ggX4_judge_X4_day : GoodIn wsX4_judge wsX4_day := goodIn_r _ [20, 21, 22, 7, 23, 12, 13, 14, 24, 25, 26, 27, 28, 29, 30, 31, 32, 33, 34, 35, 36, 37, 38, 39, 40, 41, 42, 43, 44, 45, 46, 47, 48, 49, 50, 51, 52, 53, 54, 55, 56, 57, 58, 59] rfl (by decide +kernel)
set_option maxRecDepth 20000 in
theorem gX4_judge_X4_day : GoodIn wsX4_judge (va_wsS RX4 92 yX4_day wsX4_day) := goodIn_app (goodIn_r _ [18, 19, 7] rfl (by decide +kernel)) ggX4_judge_X4_day
set_option maxRecDepth 20000 in
theorem ggX4_lots_X4_no : GoodIn wsX4_lots wsX4_no := goodIn_r _ [8, 9, 80, 81, 82, 83, 84, 85, 86, 87, 88, 89, 90, 91, 92] rfl (by decide +kernel)
set_option maxRecDepth 20000 in
theorem gX4_lots_X4_no : GoodIn wsX4_lots (wsV RX4 36 RX4 yX4_no wsX4_no) := goodIn_app (goodIn_r _ [4, 5, 6, 7] rfl (by decide +kernel)) ggX4_lots_X4_no
set_option maxRecDepth 20000 in
theorem ggX4_lots_X4_isIn : GoodIn wsX4_lots wsX4_isIn := goodIn_r _ [12] rfl (by decide +kernel)
set_option maxRecDepth 20000 in
theorem gX4_lots_X4_isIn : GoodIn wsX4_lots (va_wsS RX4 40 yX4_isIn wsX4_isIn) := goodIn_app (goodIn_r _ [10, 11, 7] rfl (by decide +kernel)) ggX4_lots_X4_isIn
set_option maxRecDepth 20000 in
theorem ggX4_lots_X4_copies : GoodIn wsX4_lots wsX4_copies := goodIn_r _ [15] rfl (by decide +kernel)
set_option maxRecDepth 20000 in
theorem gX4_lots_X4_copies : GoodIn wsX4_lots (va_wsS RX4 137 yX4_copies wsX4_copies) := goodIn_app (goodIn_r _ [13, 14, 7] rfl (by decide +kernel)) ggX4_lots_X4_copies
set_option maxRecDepth 20000 in
theorem ggX4_lots_X4_of : GoodIn wsX4_lots wsX4_of := goodIn_r _ [18] rfl (by decide +kernel)
set_option maxRecDepth 20000 in
theorem gX4_lots_X4_of : GoodIn wsX4_lots (va_wsS RX4 44 yX4_of wsX4_of) := goodIn_app (goodIn_r _ [16, 17, 7] rfl (by decide +kernel)) ggX4_lots_X4_of
set_option maxRecDepth 20000 in
theorem ggX4_lots_X4_drawn : GoodIn wsX4_lots wsX4_drawn := goodIn_r _ [22, 1, 23, 24, 25, 80, 81, 82, 83, 84, 85, 86, 87, 88, 89, 90, 91, 92] rfl (by decide +kernel)
set_option maxRecDepth 20000 in
theorem gX4_lots_X4_drawn : GoodIn wsX4_lots (wsV RX4 195 RX4 yX4_drawn wsX4_drawn) := goodIn_app (goodIn_r _ [19, 20, 21, 7] rfl (by decide +kernel)) ggX4_lots_X4_drawn
set_option maxRecDepth 20000 in
theorem ggX4_lots_X4_daysOn : GoodIn wsX4_lots wsX4_daysOn := goodIn_r _ [28, 29, 30, 7, 31, 32, 33, 34, 16, 17, 18, 35, 36, 37, 38, 39, 40, 41, 42, 43, 44, 45, 46, 47, 48, 49, 50, 51, 52, 53, 54, 55, 56, 57, 58, 59, 60, 61, 62, 63, 64, 65, 66, 67, 68, 69, 70, 71, 72, 73] rfl (by decide +kernel)
set_option maxRecDepth 20000 in
theorem gX4_lots_X4_daysOn : GoodIn wsX4_lots (va_wsS RX4 131 yX4_daysOn wsX4_daysOn) := goodIn_app (goodIn_r _ [26, 27, 7] rfl (by decide +kernel)) ggX4_lots_X4_daysOn
set_option maxRecDepth 20000 in
theorem ggX4_lots_X4_softAll : GoodIn wsX4_lots wsX4_softAll := goodIn_r _ [76, 77, 78, 7, 79, 16, 17, 18, 50, 51, 52, 53, 54, 55, 56, 57, 58, 59, 60, 61, 62, 63, 64, 65, 66, 67] rfl (by decide +kernel)
set_option maxRecDepth 20000 in
theorem gX4_lots_X4_softAll : GoodIn wsX4_lots (va_wsS RX4 183 yX4_softAll wsX4_softAll) := goodIn_app (goodIn_r _ [74, 75, 7] rfl (by decide +kernel)) ggX4_lots_X4_softAll
set_option maxRecDepth 20000 in
theorem ggX4_image_X4_copies : GoodIn wsX4_image wsX4_copies := goodIn_r _ [7] rfl (by decide +kernel)
set_option maxRecDepth 20000 in
theorem gX4_image_X4_copies : GoodIn wsX4_image (va_wsS RX4 137 yX4_copies wsX4_copies) := goodIn_app (goodIn_r _ [4, 5, 6] rfl (by decide +kernel)) ggX4_image_X4_copies
set_option maxRecDepth 20000 in
theorem ggX4_on_X4_no : GoodIn wsX4_on wsX4_no := goodIn_r _ [8, 9, 13, 14, 15, 16, 17, 18, 19, 20, 21, 22, 23, 24, 25] rfl (by decide +kernel)
set_option maxRecDepth 20000 in
theorem gX4_on_X4_no : GoodIn wsX4_on (wsV RX4 36 RX4 yX4_no wsX4_no) := goodIn_app (goodIn_r _ [4, 5, 6, 7] rfl (by decide +kernel)) ggX4_on_X4_no
set_option maxRecDepth 20000 in
theorem ggX4_on_X4_copies : GoodIn wsX4_on wsX4_copies := goodIn_r _ [12] rfl (by decide +kernel)
set_option maxRecDepth 20000 in
theorem gX4_on_X4_copies : GoodIn wsX4_on (va_wsS RX4 137 yX4_copies wsX4_copies) := goodIn_app (goodIn_r _ [10, 11, 7] rfl (by decide +kernel)) ggX4_on_X4_copies
set_option maxRecDepth 20000 in
theorem ggX4_count_X4_isIn : GoodIn wsX4_count wsX4_isIn := goodIn_r _ [8] rfl (by decide +kernel)
set_option maxRecDepth 20000 in
theorem gX4_count_X4_isIn : GoodIn wsX4_count (va_wsS RX4 40 yX4_isIn wsX4_isIn) := goodIn_app (goodIn_r _ [5, 6, 7] rfl (by decide +kernel)) ggX4_count_X4_isIn
set_option maxRecDepth 20000 in
theorem ggX4_count_X4_inNests : GoodIn wsX4_count wsX4_inNests := goodIn_r _ [11, 12, 13, 7, 14] rfl (by decide +kernel)
set_option maxRecDepth 20000 in
theorem gX4_count_X4_inNests : GoodIn wsX4_count (va_wsS RX4 157 yX4_inNests wsX4_inNests) := goodIn_app (goodIn_r _ [9, 10, 7] rfl (by decide +kernel)) ggX4_count_X4_inNests
set_option maxRecDepth 20000 in
theorem ggX4_count_X4_softAll : GoodIn wsX4_count wsX4_softAll := goodIn_r _ [17, 9, 10, 7, 11, 12, 13, 14, 18, 19, 20, 21, 22, 23, 24, 25, 26, 27, 28, 29, 30, 31, 32, 33, 34, 35] rfl (by decide +kernel)
set_option maxRecDepth 20000 in
theorem gX4_count_X4_softAll : GoodIn wsX4_count (va_wsS RX4 183 yX4_softAll wsX4_softAll) := goodIn_app (goodIn_r _ [15, 16, 7] rfl (by decide +kernel)) ggX4_count_X4_softAll
set_option maxRecDepth 20000 in
theorem ggX4_count_X4_of : GoodIn wsX4_count wsX4_of := goodIn_r _ [14] rfl (by decide +kernel)
set_option maxRecDepth 20000 in
theorem gX4_count_X4_of : GoodIn wsX4_count (va_wsS RX4 44 yX4_of wsX4_of) := goodIn_app (goodIn_r _ [12, 13, 7] rfl (by decide +kernel)) ggX4_count_X4_of
set_option maxRecDepth 20000 in
theorem ggL_law_X3_init : GoodIn wsL_law wsX3_init := goodIn_r _ [8, 9, 10, 11, 12, 13, 14, 15, 16, 17, 18, 19, 20, 21, 22, 23, 24, 25, 26, 27, 28, 29, 30, 31, 32, 33, 34, 35, 36, 37, 38, 39, 40, 41, 42, 43, 44, 45, 46, 47, 775, 776, 777, 778, 779, 780, 781, 782, 783, 784, 785, 786, 753, 754, 755, 756, 757, 758, 759, 760, 761, 787, 788] rfl (by decide +kernel)
set_option maxRecDepth 20000 in
theorem gL_law_X3_init : GoodIn wsL_law (wsX3_init) := ggL_law_X3_init
set_option maxRecDepth 20000 in
theorem ggL_law_X4_init : GoodIn wsL_law wsX4_init := goodIn_r _ [50, 51, 10, 11, 23, 52, 53, 54, 55, 56, 57, 58, 59, 762, 763, 764, 765, 766, 767, 768, 769, 770, 771, 772, 773, 774] rfl (by decide +kernel)
set_option maxRecDepth 20000 in
theorem gL_law_X4_init : GoodIn wsL_law (wsX4_init) := ggL_law_X4_init
set_option maxRecDepth 20000 in
theorem ggL_law_X3_letter : GoodIn wsL_law wsX3_letter := goodIn_r _ [63, 22, 64, 65, 66, 67, 2, 68, 26, 69, 70, 71, 21, 72, 47, 46, 753, 754, 755, 756, 757, 758, 759, 760, 761, 787, 788] rfl (by decide +kernel)
set_option maxRecDepth 20000 in
theorem gL_law_X3_letter : GoodIn wsL_law (wsV RL 13 RX3 yX3_letter wsX3_letter) := goodIn_app (goodIn_r _ [60, 61, 62, 2] rfl (by decide +kernel)) ggL_law_X3_letter
set_option maxRecDepth 20000 in
theorem ggL_law_X4_letter : GoodIn wsL_law wsX4_letter := goodIn_r _ [76, 77, 56, 78, 79, 80, 5, 81, 58, 762, 763, 764, 765, 766, 767, 768, 769, 770, 771, 772, 773, 774] rfl (by decide +kernel)
set_option maxRecDepth 20000 in
theorem gL_law_X4_letter : GoodIn wsL_law (wsV RL 17 RX4 yX4_letter wsX4_letter) := goodIn_app (goodIn_r _ [73, 74, 75, 5] rfl (by decide +kernel)) ggL_law_X4_letter
set_option maxRecDepth 20000 in
theorem ggL_law_X3_close : GoodIn wsL_law wsX3_close := goodIn_r _ [85, 22, 16, 15, 64, 86, 87, 88, 21, 89, 47, 90, 91, 92, 93, 46, 94, 95, 96, 97, 98, 99, 100, 101, 102, 103, 104, 105, 106, 14, 107, 31, 32, 33, 34, 35, 36, 37, 38, 39, 108, 109, 110, 111, 40, 41, 42, 112, 113, 114, 115, 116, 117, 118, 119, 120, 121, 122, 123, 124, 125, 126, 127, 128, 129, 130, 2, 131, 132, 133, 134, 135, 136, 137, 138, 139, 140, 141, 142, 143, 144, 145, 146, 147, 148, 149, 150, 151, 152, 153, 154, 155, 156, 157, 158, 159, 160, 161, 162, 163, 164, 165, 166, 167, 168, 169, 170, 171, 172, 173, 174, 175, 176, 177, 178, 179, 180, 181, 182, 183, 184, 185, 186, 187, 188, 189, 190, 191, 192, 753, 754, 755, 756, 757, 758, 759, 760, 761, 787, 788, 775, 776, 777, 778, 779, 780, 781, 782, 783, 784, 785, 786] rfl (by decide +kernel)
set_option maxRecDepth 20000 in
theorem gL_law_X3_close : GoodIn wsL_law (wsV RL 18 RX3 yX3_close wsX3_close) := goodIn_app (goodIn_r _ [82, 83, 84, 2] rfl (by decide +kernel)) ggL_law_X3_close
set_option maxRecDepth 20000 in
theorem ggL_law_X4_close : GoodIn wsL_law wsX4_close := goodIn_r _ [196, 197, 77, 52, 55, 198, 199, 200, 5, 201, 202, 203, 204, 205, 56, 206, 207, 208, 209, 59, 210, 211, 212, 213, 214, 215, 216, 217, 218, 219, 220, 221, 222, 223, 224, 225, 226, 227, 228, 229, 230, 231, 232, 233, 234, 235, 236, 237, 238, 239, 240, 241, 242, 243, 244, 245, 246, 247, 248, 249, 250, 251, 252, 253, 254, 255, 256, 257, 258, 259, 260, 261, 262, 263, 264, 265, 266, 267, 268, 269, 270, 271, 272, 273, 274, 275, 276, 277, 278, 279, 280, 281, 282, 283, 284, 285, 286, 287, 762, 763, 764, 765, 766, 767, 768, 769, 770, 771, 772, 773, 774] rfl (by decide +kernel)
set_option maxRecDepth 20000 in
theorem gL_law_X4_close : GoodIn wsL_law (wsV RL 22 RX4 yX4_close wsX4_close) := goodIn_app (goodIn_r _ [193, 194, 195, 5] rfl (by decide +kernel)) ggL_law_X4_close
set_option maxRecDepth 20000 in
theorem ggL_law_X3_saying : GoodIn wsL_law wsX3_saying := goodIn_r _ [291, 15, 292, 293, 294, 295, 296, 137, 138, 14, 139, 31, 65, 66, 67, 2, 68, 26, 297, 298, 299, 300, 42, 301, 302, 303, 304, 39, 182, 183, 184, 185, 41, 40, 305, 306, 102, 307, 308, 309, 310, 311, 186, 187, 188, 312, 313, 314, 315, 189, 190, 191, 753, 754, 755, 756, 757, 758, 759, 760, 761, 775, 776, 777, 778, 779, 780, 781, 782, 783, 784, 785, 786] rfl (by decide +kernel)
set_option maxRecDepth 20000 in
theorem gL_law_X3_saying : GoodIn wsL_law (wsV RL 23 RX3 yX3_saying wsX3_saying) := goodIn_app (goodIn_r _ [288, 289, 290, 2] rfl (by decide +kernel)) ggL_law_X3_saying
set_option maxRecDepth 20000 in
theorem ggL_law_X4_saying : GoodIn wsL_law wsX4_saying := goodIn_r _ [319, 52, 236, 237, 238, 5, 239, 217, 218, 219, 78, 79, 80, 81, 58, 233, 234, 235, 270, 271, 272, 249, 250, 251, 273, 274, 275, 276, 277, 278, 279, 280, 281, 282, 283, 284, 762, 763, 764, 765, 766, 767, 768, 769, 770, 771, 772, 773, 774] rfl (by decide +kernel)
set_option maxRecDepth 20000 in
theorem gL_law_X4_saying : GoodIn wsL_law (wsV RL 27 RX4 yX4_saying wsX4_saying) := goodIn_app (goodIn_r _ [316, 317, 318, 5] rfl (by decide +kernel)) ggL_law_X4_saying
set_option maxRecDepth 20000 in
theorem ggL_law_X3_nest : GoodIn wsL_law wsX3_nest := goodIn_r _ [323, 15, 324, 325, 152, 326, 327, 130, 2, 131, 65, 66, 67, 68, 26, 328, 155, 156, 14, 157, 42, 34, 301, 302, 303, 304, 31, 39, 182, 183, 184, 185, 41, 40, 305, 306, 102, 307, 308, 309, 310, 311, 186, 187, 188, 312, 313, 314, 315, 189, 190, 191, 329, 179, 180, 181, 753, 754, 755, 756, 757, 758, 759, 760, 761, 775, 776, 777, 778, 779, 780, 781, 782, 783, 784, 785, 786] rfl (by decide +kernel)
set_option maxRecDepth 20000 in
theorem gL_law_X3_nest : GoodIn wsL_law (wsV RL 28 RX3 yX3_nest wsX3_nest) := goodIn_app (goodIn_r _ [320, 321, 322, 2] rfl (by decide +kernel)) ggL_law_X3_nest
set_option maxRecDepth 20000 in
theorem ggL_law_X4_nest : GoodIn wsL_law wsX4_nest := goodIn_r _ [333, 52, 227, 228, 5, 229, 217, 218, 219, 78, 79, 80, 81, 58, 243, 244, 245, 246, 247, 248, 233, 234, 235, 270, 271, 272, 249, 250, 251, 273, 274, 275, 276, 277, 278, 279, 280, 281, 282, 283, 284, 267, 268, 269, 334, 335, 336, 762, 763, 764, 765, 766, 767, 768, 769, 770, 771, 772, 773, 774] rfl (by decide +kernel)
set_option maxRecDepth 20000 in
theorem gL_law_X4_nest : GoodIn wsL_law (wsV RL 31 RX4 yX4_nest wsX4_nest) := goodIn_app (goodIn_r _ [330, 331, 332, 5] rfl (by decide +kernel)) ggL_law_X4_nest
set_option maxRecDepth 20000 in
theorem ggL_law_X3_takes : GoodIn wsL_law wsX3_takes := goodIn_r _ [340, 15, 296, 137, 138, 14, 139, 31, 65, 66, 67, 2, 68, 26, 341, 142, 143, 144, 34, 753, 754, 755, 756, 757, 758, 759, 760, 761, 775, 776, 777, 778, 779, 780, 781, 782, 783, 784, 785, 786] rfl (by decide +kernel)
set_option maxRecDepth 20000 in
theorem gL_law_X3_takes : GoodIn wsL_law (wsV RL 32 RX3 yX3_takes wsX3_takes) := goodIn_app (goodIn_r _ [337, 338, 339, 2] rfl (by decide +kernel)) ggL_law_X3_takes
set_option maxRecDepth 20000 in
theorem ggL_law_X4_takes : GoodIn wsL_law wsX4_takes := goodIn_r _ [345, 52, 236, 237, 238, 5, 239, 217, 218, 219, 78, 79, 80, 81, 58, 233, 234, 235, 762, 763, 764, 765, 766, 767, 768, 769, 770, 771, 772, 773, 774] rfl (by decide +kernel)
set_option maxRecDepth 20000 in
theorem gL_law_X4_takes : GoodIn wsL_law (wsV RL 35 RX4 yX4_takes wsX4_takes) := goodIn_app (goodIn_r _ [342, 343, 344, 5] rfl (by decide +kernel)) ggL_law_X4_takes
set_option maxRecDepth 20000 in
theorem ggL_law_X3_wears : GoodIn wsL_law wsX3_wears := goodIn_r _ [349, 15, 294, 296, 137, 138, 14, 139, 31, 65, 66, 67, 2, 68, 26, 753, 754, 755, 756, 757, 758, 759, 760, 761, 775, 776, 777, 778, 779, 780, 781, 782, 783, 784, 785, 786] rfl (by decide +kernel)
set_option maxRecDepth 20000 in
theorem gL_law_X3_wears : GoodIn wsL_law (wsV RL 36 RX3 yX3_wears wsX3_wears) := goodIn_app (goodIn_r _ [346, 347, 348, 2] rfl (by decide +kernel)) ggL_law_X3_wears
set_option maxRecDepth 20000 in
theorem ggL_law_X4_wears : GoodIn wsL_law wsX4_wears := goodIn_r _ [353, 52, 236, 237, 238, 5, 239, 217, 218, 219, 354, 355, 356, 78, 79, 80, 81, 58, 233, 234, 235, 762, 763, 764, 765, 766, 767, 768, 769, 770, 771, 772, 773, 774] rfl (by decide +kernel)
set_option maxRecDepth 20000 in
theorem gL_law_X4_wears : GoodIn wsL_law (wsV RL 39 RX4 yX4_wears wsX4_wears) := goodIn_app (goodIn_r _ [350, 351, 352, 5] rfl (by decide +kernel)) ggL_law_X4_wears
set_option maxRecDepth 20000 in
theorem ggL_law_X3_concerns : GoodIn wsL_law wsX3_concerns := goodIn_r _ [360, 15, 296, 137, 138, 14, 139, 31, 327, 130, 2, 131, 65, 66, 67, 68, 26, 297, 298, 299, 300, 42, 361, 133, 134, 135, 34, 136, 753, 754, 755, 756, 757, 758, 759, 760, 761, 775, 776, 777, 778, 779, 780, 781, 782, 783, 784, 785, 786] rfl (by decide +kernel)
set_option maxRecDepth 20000 in
theorem gL_law_X3_concerns : GoodIn wsL_law (wsV RL 40 RX3 yX3_concerns wsX3_concerns) := goodIn_app (goodIn_r _ [357, 358, 359, 2] rfl (by decide +kernel)) ggL_law_X3_concerns
set_option maxRecDepth 20000 in
theorem ggL_law_X4_concerns : GoodIn wsL_law wsX4_concerns := goodIn_r _ [365, 52, 236, 237, 238, 5, 239, 217, 218, 219, 227, 228, 229, 78, 79, 80, 81, 58, 233, 234, 235, 762, 763, 764, 765, 766, 767, 768, 769, 770, 771, 772, 773, 774] rfl (by decide +kernel)
set_option maxRecDepth 20000 in
theorem gL_law_X4_concerns : GoodIn wsL_law (wsV RL 43 RX4 yX4_concerns wsX4_concerns) := goodIn_app (goodIn_r _ [362, 363, 364, 5] rfl (by decide +kernel)) ggL_law_X4_concerns
set_option maxRecDepth 20000 in
theorem ggL_law_X3_boy : GoodIn wsL_law wsX3_boy := goodIn_r _ [369, 15, 327, 130, 2, 131, 65, 66, 67, 68, 26, 328, 155, 156, 14, 157, 42, 34, 370, 147, 148, 149, 33, 150, 151, 152, 153, 36, 35, 154, 371, 372, 373, 374, 375, 376, 377, 753, 754, 755, 756, 757, 758, 759, 760, 761, 775, 776, 777, 778, 779, 780, 781, 782, 783, 784, 785, 786] rfl (by decide +kernel)
set_option maxRecDepth 20000 in
theorem gL_law_X3_boy : GoodIn wsL_law (wsV RL 44 RX3 yX3_boy wsX3_boy) := goodIn_app (goodIn_r _ [366, 367, 368, 2] rfl (by decide +kernel)) ggL_law_X3_boy
set_option maxRecDepth 20000 in
theorem ggL_law_X4_boy : GoodIn wsL_law wsX4_boy := goodIn_r _ [381, 52, 227, 228, 5, 229, 217, 218, 219, 78, 79, 80, 81, 58, 243, 244, 245, 246, 247, 248, 233, 234, 235, 285, 286, 287, 240, 241, 242, 249, 250, 251, 252, 253, 254, 762, 763, 764, 765, 766, 767, 768, 769, 770, 771, 772, 773, 774] rfl (by decide +kernel)
set_option maxRecDepth 20000 in
theorem gL_law_X4_boy : GoodIn wsL_law (wsV RL 47 RX4 yX4_boy wsX4_boy) := goodIn_app (goodIn_r _ [378, 379, 380, 5] rfl (by decide +kernel)) ggL_law_X4_boy
set_option maxRecDepth 20000 in
theorem ggL_law_X3_turn : GoodIn wsL_law wsX3_turn := goodIn_r _ [385, 15, 292, 293, 296, 137, 138, 14, 139, 31, 65, 66, 67, 2, 68, 26, 753, 754, 755, 756, 757, 758, 759, 760, 761, 775, 776, 777, 778, 779, 780, 781, 782, 783, 784, 785, 786] rfl (by decide +kernel)
set_option maxRecDepth 20000 in
theorem gL_law_X3_turn : GoodIn wsL_law (wsV RL 48 RX3 yX3_turn wsX3_turn) := goodIn_app (goodIn_r _ [382, 383, 384, 2] rfl (by decide +kernel)) ggL_law_X3_turn
set_option maxRecDepth 20000 in
theorem ggL_law_X4_turn : GoodIn wsL_law wsX4_turn := goodIn_r _ [389, 52, 236, 237, 238, 5, 239, 217, 218, 219, 354, 355, 356, 78, 79, 80, 81, 58, 233, 234, 235, 762, 763, 764, 765, 766, 767, 768, 769, 770, 771, 772, 773, 774] rfl (by decide +kernel)
set_option maxRecDepth 20000 in
theorem gL_law_X4_turn : GoodIn wsL_law (wsV RL 52 RX4 yX4_turn wsX4_turn) := goodIn_app (goodIn_r _ [386, 387, 388, 5] rfl (by decide +kernel)) ggL_law_X4_turn
set_option maxRecDepth 20000 in
theorem ggL_law_X3_days : GoodIn wsL_law wsX3_days := goodIn_r _ [393, 15, 394, 395, 65, 66, 67, 2, 68, 26, 396, 159, 160, 14, 161, 162, 163, 164, 165, 32, 37, 34, 166, 167, 168, 169, 31, 41, 150, 151, 152, 153, 170, 171, 172, 173, 38, 174, 175, 176, 177, 42, 154, 155, 156, 157, 178, 179, 180, 181, 39, 182, 183, 184, 185, 40, 186, 187, 102, 188, 189, 190, 191, 192, 147, 148, 149, 33, 36, 35, 753, 754, 755, 756, 757, 758, 759, 760, 761, 775, 776, 777, 778, 779, 780, 781, 782, 783, 784, 785, 786] rfl (by decide +kernel)
set_option maxRecDepth 20000 in
theorem gL_law_X3_days : GoodIn wsL_law (wsV RL 53 RX3 yX3_days wsX3_days) := goodIn_app (goodIn_r _ [390, 391, 392, 2] rfl (by decide +kernel)) ggL_law_X3_days
set_option maxRecDepth 20000 in
theorem ggL_law_X4_days : GoodIn wsL_law wsX4_days := goodIn_r _ [400, 52, 78, 79, 80, 5, 81, 58, 255, 256, 257, 258, 259, 260, 261, 262, 263, 233, 234, 235, 252, 253, 254, 264, 265, 266, 243, 244, 245, 246, 247, 248, 267, 268, 269, 270, 271, 272, 249, 250, 251, 273, 274, 275, 276, 277, 278, 279, 280, 281, 282, 283, 284, 240, 241, 242, 285, 286, 287, 762, 763, 764, 765, 766, 767, 768, 769, 770, 771, 772, 773, 774] rfl (by decide +kernel)
set_option maxRecDepth 20000 in
theorem gL_law_X4_days : GoodIn wsL_law (wsV RL 56 RX4 yX4_days wsX4_days) := goodIn_app (goodIn_r _ [397, 398, 399, 5] rfl (by decide +kernel)) ggL_law_X4_days
set_option maxRecDepth 20000 in
theorem ggL_law_X3_nestThen : GoodIn wsL_law wsX3_nestThen := goodIn_r _ [404, 16, 327, 130, 2, 131, 65, 66, 67, 68, 26, 405, 406, 407, 408, 15, 104, 105, 106, 14, 107, 31, 32, 33, 34, 35, 36, 37, 38, 39, 108, 109, 110, 111, 40, 41, 42, 396, 159, 160, 161, 162, 163, 164, 165, 166, 167, 168, 169, 150, 151, 152, 153, 170, 171, 172, 173, 174, 175, 176, 177, 154, 155, 156, 157, 178, 179, 180, 181, 182, 183, 184, 185, 186, 187, 102, 188, 189, 190, 191, 192, 147, 148, 149, 328, 301, 302, 303, 304, 305, 306, 307, 308, 309, 310, 311, 312, 313, 314, 315, 753, 754, 755, 756, 757, 758, 759, 760, 761, 775, 776, 777, 778, 779, 780, 781, 782, 783, 784, 785, 786] rfl (by decide +kernel)
set_option maxRecDepth 20000 in
theorem gL_law_X3_nestThen : GoodIn wsL_law (wsV RL 57 RX3 yX3_nestThen wsX3_nestThen) := goodIn_app (goodIn_r _ [401, 402, 403, 2] rfl (by decide +kernel)) ggL_law_X3_nestThen
set_option maxRecDepth 20000 in
theorem ggL_law_X4_nestThen : GoodIn wsL_law wsX4_nestThen := goodIn_r _ [412, 53, 227, 228, 5, 229, 217, 218, 219, 354, 355, 356, 78, 79, 80, 81, 58, 413, 414, 415, 416, 52, 220, 221, 222, 255, 256, 257, 258, 259, 260, 261, 262, 263, 233, 234, 235, 252, 253, 254, 264, 265, 266, 243, 244, 245, 246, 247, 248, 267, 268, 269, 270, 271, 272, 249, 250, 251, 273, 274, 275, 276, 277, 278, 279, 280, 281, 282, 283, 284, 240, 241, 242, 285, 286, 287, 762, 763, 764, 765, 766, 767, 768, 769, 770, 771, 772, 773, 774] rfl (by decide +kernel)
set_option maxRecDepth 20000 in
theorem gL_law_X4_nestThen : GoodIn wsL_law (wsV RL 60 RX4 yX4_nestThen wsX4_nestThen) := goodIn_app (goodIn_r _ [409, 410, 411, 5] rfl (by decide +kernel)) ggL_law_X4_nestThen
set_option maxRecDepth 20000 in
theorem ggL_law_X3_robbedThen : GoodIn wsL_law wsX3_robbedThen := goodIn_r _ [420, 16, 395, 65, 66, 67, 2, 68, 26, 405, 406, 407, 408, 15, 104, 105, 106, 14, 107, 31, 32, 33, 34, 35, 36, 37, 38, 39, 108, 109, 110, 111, 40, 41, 42, 396, 159, 160, 161, 162, 163, 164, 165, 166, 167, 168, 169, 150, 151, 152, 153, 170, 171, 172, 173, 174, 175, 176, 177, 154, 155, 156, 157, 178, 179, 180, 181, 182, 183, 184, 185, 186, 187, 102, 188, 189, 190, 191, 192, 147, 148, 149, 753, 754, 755, 756, 757, 758, 759, 760, 761, 775, 776, 777, 778, 779, 780, 781, 782, 783, 784, 785, 786] rfl (by decide +kernel)
set_option maxRecDepth 20000 in
theorem gL_law_X3_robbedThen : GoodIn wsL_law (wsV RL 61 RX3 yX3_robbedThen wsX3_robbedThen) := goodIn_app (goodIn_r _ [417, 418, 419, 2] rfl (by decide +kernel)) ggL_law_X3_robbedThen
set_option maxRecDepth 20000 in
theorem ggL_law_X4_robbedThen : GoodIn wsL_law wsX4_robbedThen := goodIn_r _ [424, 53, 354, 355, 5, 356, 78, 79, 80, 81, 58, 413, 414, 415, 416, 52, 220, 221, 222, 255, 256, 257, 258, 259, 260, 261, 262, 263, 233, 234, 235, 252, 253, 254, 264, 265, 266, 243, 244, 245, 246, 247, 248, 267, 268, 269, 270, 271, 272, 249, 250, 251, 273, 274, 275, 276, 277, 278, 279, 280, 281, 282, 283, 284, 240, 241, 242, 285, 286, 287, 762, 763, 764, 765, 766, 767, 768, 769, 770, 771, 772, 773, 774] rfl (by decide +kernel)
set_option maxRecDepth 20000 in
theorem gL_law_X4_robbedThen : GoodIn wsL_law (wsV RL 64 RX4 yX4_robbedThen wsX4_robbedThen) := goodIn_app (goodIn_r _ [421, 422, 423, 5] rfl (by decide +kernel)) ggL_law_X4_robbedThen
set_option maxRecDepth 20000 in
theorem ggL_law_X3_falls : GoodIn wsL_law wsX3_falls := goodIn_r _ [428, 16, 15, 429, 327, 130, 2, 131, 65, 66, 67, 68, 26, 104, 105, 106, 14, 107, 31, 32, 33, 34, 35, 36, 37, 38, 39, 108, 109, 110, 111, 40, 41, 42, 430, 163, 164, 165, 166, 167, 168, 169, 150, 151, 152, 153, 170, 171, 172, 173, 174, 175, 176, 177, 154, 155, 156, 157, 178, 179, 180, 181, 182, 183, 184, 185, 186, 187, 102, 188, 189, 190, 191, 192, 147, 148, 149, 753, 754, 755, 756, 757, 758, 759, 760, 761, 775, 776, 777, 778, 779, 780, 781, 782, 783, 784, 785, 786] rfl (by decide +kernel)
set_option maxRecDepth 20000 in
theorem gL_law_X3_falls : GoodIn wsL_law (wsV RL 65 RX3 yX3_falls wsX3_falls) := goodIn_app (goodIn_r _ [425, 426, 427, 2] rfl (by decide +kernel)) ggL_law_X3_falls
set_option maxRecDepth 20000 in
theorem ggL_law_X4_falls : GoodIn wsL_law wsX4_falls := goodIn_r _ [434, 227, 228, 5, 229, 217, 218, 219, 435, 436, 437, 438, 52, 53, 220, 221, 222, 258, 259, 260, 261, 262, 263, 233, 234, 235, 252, 253, 254, 264, 265, 266, 243, 244, 245, 246, 247, 248, 267, 268, 269, 270, 271, 272, 249, 250, 251, 273, 274, 275, 276, 277, 278, 279, 280, 281, 282, 283, 284, 240, 241, 242, 78, 79, 80, 81, 58, 762, 763, 764, 765, 766, 767, 768, 769, 770, 771, 772, 773, 774] rfl (by decide +kernel)
set_option maxRecDepth 20000 in
theorem gL_law_X4_falls : GoodIn wsL_law (wsV RL 68 RX4 yX4_falls wsX4_falls) := goodIn_app (goodIn_r _ [431, 432, 433, 5] rfl (by decide +kernel)) ggL_law_X4_falls
set_option maxRecDepth 20000 in
theorem ggL_law_X3_first : GoodIn wsL_law wsX3_first := goodIn_r _ [442, 16, 15, 429, 65, 66, 67, 2, 68, 26, 443, 444, 445, 446, 295, 104, 105, 106, 14, 107, 31, 32, 33, 34, 35, 36, 37, 38, 39, 108, 109, 110, 111, 40, 41, 42, 430, 163, 164, 165, 166, 167, 168, 169, 150, 151, 152, 153, 170, 171, 172, 173, 174, 175, 176, 177, 154, 155, 156, 157, 178, 179, 180, 181, 182, 183, 184, 185, 186, 187, 102, 188, 189, 190, 191, 192, 147, 148, 149, 447, 448, 449, 753, 754, 755, 756, 757, 758, 759, 760, 761, 775, 776, 777, 778, 779, 780, 781, 782, 783, 784, 785, 786] rfl (by decide +kernel)
set_option maxRecDepth 20000 in
theorem gL_law_X3_first : GoodIn wsL_law (wsV RL 69 RX3 yX3_first wsX3_first) := goodIn_app (goodIn_r _ [439, 440, 441, 2] rfl (by decide +kernel)) ggL_law_X3_first
set_option maxRecDepth 20000 in
theorem ggL_law_X4_first : GoodIn wsL_law wsX4_first := goodIn_r _ [453, 217, 218, 5, 219, 78, 79, 80, 81, 58, 454, 455, 456, 457, 52, 53, 220, 221, 222, 458, 459, 460, 233, 234, 235, 258, 259, 260, 261, 262, 263, 252, 253, 254, 264, 265, 266, 243, 244, 245, 246, 247, 248, 267, 268, 269, 270, 271, 272, 249, 250, 251, 273, 274, 275, 276, 277, 278, 279, 280, 281, 282, 283, 284, 240, 241, 242, 435, 436, 437, 438, 762, 763, 764, 765, 766, 767, 768, 769, 770, 771, 772, 773, 774] rfl (by decide +kernel)
set_option maxRecDepth 20000 in
theorem gL_law_X4_first : GoodIn wsL_law (wsV RL 72 RX4 yX4_first wsX4_first) := goodIn_app (goodIn_r _ [450, 451, 452, 5] rfl (by decide +kernel)) ggL_law_X4_first
set_option maxRecDepth 20000 in
theorem ggL_law_X3_cushion : GoodIn wsL_law wsX3_cushion := goodIn_r _ [464, 16, 15, 65, 66, 67, 2, 68, 26, 104, 105, 106, 14, 107, 31, 32, 33, 34, 35, 36, 37, 38, 39, 108, 109, 110, 111, 40, 41, 42, 328, 155, 156, 157, 301, 302, 303, 304, 182, 183, 184, 185, 305, 306, 102, 307, 430, 163, 164, 165, 166, 167, 168, 169, 150, 151, 152, 153, 170, 171, 172, 173, 174, 175, 176, 177, 154, 178, 179, 180, 181, 186, 187, 188, 189, 190, 191, 192, 147, 148, 149, 753, 754, 755, 756, 757, 758, 759, 760, 761, 775, 776, 777, 778, 779, 780, 781, 782, 783, 784, 785, 786] rfl (by decide +kernel)
set_option maxRecDepth 20000 in
theorem gL_law_X3_cushion : GoodIn wsL_law (wsV RL 73 RX3 yX3_cushion wsX3_cushion) := goodIn_app (goodIn_r _ [461, 462, 463, 2] rfl (by decide +kernel)) ggL_law_X3_cushion
set_option maxRecDepth 20000 in
theorem ggL_law_X4_cushion : GoodIn wsL_law wsX4_cushion := goodIn_r _ [468, 52, 53, 217, 218, 5, 219, 78, 79, 80, 81, 58, 220, 221, 222, 243, 244, 245, 246, 247, 248, 233, 234, 235, 270, 271, 272, 249, 250, 251, 273, 274, 275, 276, 277, 278, 279, 280, 281, 282, 283, 284, 258, 259, 260, 261, 262, 263, 252, 253, 254, 264, 265, 266, 267, 268, 269, 240, 241, 242, 762, 763, 764, 765, 766, 767, 768, 769, 770, 771, 772, 773, 774] rfl (by decide +kernel)
set_option maxRecDepth 20000 in
theorem gL_law_X4_cushion : GoodIn wsL_law (wsV RL 76 RX4 yX4_cushion wsX4_cushion) := goodIn_app (goodIn_r _ [465, 466, 467, 5] rfl (by decide +kernel)) ggL_law_X4_cushion
set_option maxRecDepth 20000 in
theorem ggL_law_X3_more : GoodIn wsL_law wsX3_more := goodIn_r _ [472, 15, 327, 130, 2, 131, 65, 66, 67, 68, 26, 328, 155, 156, 14, 157, 42, 34, 473, 171, 172, 173, 38, 174, 175, 176, 177, 474, 475, 476, 477, 31, 478, 372, 373, 374, 375, 376, 377, 178, 179, 180, 181, 39, 182, 183, 184, 185, 41, 40, 186, 187, 102, 188, 189, 190, 191, 753, 754, 755, 756, 757, 758, 759, 760, 761, 775, 776, 777, 778, 779, 780, 781, 782, 783, 784, 785, 786] rfl (by decide +kernel)
set_option maxRecDepth 20000 in
theorem gL_law_X3_more : GoodIn wsL_law (wsV RL 77 RX3 yX3_more wsX3_more) := goodIn_app (goodIn_r _ [469, 470, 471, 2] rfl (by decide +kernel)) ggL_law_X3_more
set_option maxRecDepth 20000 in
theorem ggL_law_X4_more : GoodIn wsL_law wsX4_more := goodIn_r _ [482, 52, 227, 228, 5, 229, 217, 218, 219, 78, 79, 80, 81, 58, 243, 244, 245, 246, 247, 248, 233, 234, 235, 285, 286, 287, 267, 268, 269, 270, 271, 272, 249, 250, 251, 273, 274, 275, 276, 277, 278, 279, 280, 281, 282, 283, 284, 762, 763, 764, 765, 766, 767, 768, 769, 770, 771, 772, 773, 774] rfl (by decide +kernel)
set_option maxRecDepth 20000 in
theorem gL_law_X4_more : GoodIn wsL_law (wsV RL 80 RX4 yX4_more wsX4_more) := goodIn_app (goodIn_r _ [479, 480, 481, 5] rfl (by decide +kernel)) ggL_law_X4_more
set_option maxRecDepth 20000 in
theorem ggL_law_X3_softest : GoodIn wsL_law wsX3_softest := goodIn_r _ [486, 15, 327, 130, 2, 131, 65, 66, 67, 68, 26, 487, 175, 176, 14, 177, 42, 488, 489, 490, 491, 31, 492, 302, 303, 304, 39, 182, 183, 184, 185, 41, 40, 305, 306, 102, 307, 178, 179, 180, 181, 186, 187, 188, 189, 190, 191, 301, 753, 754, 755, 756, 757, 758, 759, 760, 761, 775, 776, 777, 778, 779, 780, 781, 782, 783, 784, 785, 786] rfl (by decide +kernel)
set_option maxRecDepth 20000 in
theorem gL_law_X3_softest : GoodIn wsL_law (wsV RL 81 RX3 yX3_softest wsX3_softest) := goodIn_app (goodIn_r _ [483, 484, 485, 2] rfl (by decide +kernel)) ggL_law_X3_softest
set_option maxRecDepth 20000 in
theorem ggL_law_X4_softest : GoodIn wsL_law wsX4_softest := goodIn_r _ [496, 52, 227, 228, 5, 229, 217, 218, 219, 78, 79, 80, 81, 58, 243, 244, 245, 246, 247, 248, 233, 234, 235, 270, 271, 272, 249, 250, 251, 273, 274, 275, 276, 277, 278, 279, 280, 281, 282, 283, 284, 267, 268, 269, 762, 763, 764, 765, 766, 767, 768, 769, 770, 771, 772, 773, 774] rfl (by decide +kernel)
set_option maxRecDepth 20000 in
theorem gL_law_X4_softest : GoodIn wsL_law (wsV RL 84 RX4 yX4_softest wsX4_softest) := goodIn_app (goodIn_r _ [493, 494, 495, 5] rfl (by decide +kernel)) ggL_law_X4_softest
set_option maxRecDepth 20000 in
theorem ggL_law_X3_prop : GoodIn wsL_law wsX3_prop := goodIn_r _ [500, 15, 501, 327, 130, 2, 131, 65, 66, 67, 68, 26, 328, 155, 156, 14, 157, 42, 34, 329, 179, 180, 181, 31, 39, 182, 183, 184, 185, 41, 40, 186, 187, 102, 188, 189, 190, 191, 753, 754, 755, 756, 757, 758, 759, 760, 761, 775, 776, 777, 778, 779, 780, 781, 782, 783, 784, 785, 786] rfl (by decide +kernel)
set_option maxRecDepth 20000 in
theorem gL_law_X3_prop : GoodIn wsL_law (wsV RL 85 RX3 yX3_prop wsX3_prop) := goodIn_app (goodIn_r _ [497, 498, 499, 2] rfl (by decide +kernel)) ggL_law_X3_prop
set_option maxRecDepth 20000 in
theorem ggL_law_X4_prop : GoodIn wsL_law wsX4_prop := goodIn_r _ [505, 52, 227, 228, 5, 229, 217, 218, 219, 78, 79, 80, 81, 58, 243, 244, 245, 246, 247, 248, 233, 234, 235, 249, 250, 251, 267, 268, 269, 270, 271, 272, 273, 274, 275, 276, 277, 278, 279, 280, 281, 282, 283, 284, 762, 763, 764, 765, 766, 767, 768, 769, 770, 771, 772, 773, 774] rfl (by decide +kernel)
set_option maxRecDepth 20000 in
theorem gL_law_X4_prop : GoodIn wsL_law (wsV RL 88 RX4 yX4_prop wsX4_prop) := goodIn_app (goodIn_r _ [502, 503, 504, 5] rfl (by decide +kernel)) ggL_law_X4_prop
set_option maxRecDepth 20000 in
theorem ggL_law_X3_lighten : GoodIn wsL_law wsX3_lighten := goodIn_r _ [509, 15, 327, 130, 2, 131, 65, 66, 67, 68, 26, 328, 155, 156, 14, 157, 42, 34, 474, 475, 476, 477, 31, 478, 372, 373, 374, 375, 376, 377, 178, 179, 180, 181, 39, 182, 183, 184, 185, 41, 40, 186, 187, 102, 188, 189, 190, 191, 753, 754, 755, 756, 757, 758, 759, 760, 761, 775, 776, 777, 778, 779, 780, 781, 782, 783, 784, 785, 786] rfl (by decide +kernel)
set_option maxRecDepth 20000 in
theorem gL_law_X3_lighten : GoodIn wsL_law (wsV RL 89 RX3 yX3_lighten wsX3_lighten) := goodIn_app (goodIn_r _ [506, 507, 508, 2] rfl (by decide +kernel)) ggL_law_X3_lighten
set_option maxRecDepth 20000 in
theorem ggL_law_X4_lighten : GoodIn wsL_law wsX4_lighten := goodIn_r _ [513, 52, 227, 228, 5, 229, 217, 218, 219, 78, 79, 80, 81, 58, 243, 244, 245, 246, 247, 248, 233, 234, 235, 285, 286, 287, 267, 268, 269, 270, 271, 272, 249, 250, 251, 273, 274, 275, 276, 277, 278, 279, 280, 281, 282, 283, 284, 762, 763, 764, 765, 766, 767, 768, 769, 770, 771, 772, 773, 774] rfl (by decide +kernel)
set_option maxRecDepth 20000 in
theorem gL_law_X4_lighten : GoodIn wsL_law (wsV RL 92 RX4 yX4_lighten wsX4_lighten) := goodIn_app (goodIn_r _ [510, 511, 512, 5] rfl (by decide +kernel)) ggL_law_X4_lighten
set_option maxRecDepth 20000 in
theorem ggL_law_X3_about : GoodIn wsL_law wsX3_about := goodIn_r _ [517, 15, 296, 137, 138, 14, 139, 31, 65, 66, 67, 2, 68, 26, 328, 155, 156, 157, 42, 34, 301, 302, 303, 304, 39, 182, 183, 184, 185, 41, 40, 305, 306, 102, 307, 329, 179, 180, 181, 186, 187, 188, 189, 190, 191, 753, 754, 755, 756, 757, 758, 759, 760, 761, 775, 776, 777, 778, 779, 780, 781, 782, 783, 784, 785, 786] rfl (by decide +kernel)
set_option maxRecDepth 20000 in
theorem gL_law_X3_about : GoodIn wsL_law (wsV RL 93 RX3 yX3_about wsX3_about) := goodIn_app (goodIn_r _ [514, 515, 516, 2] rfl (by decide +kernel)) ggL_law_X3_about
set_option maxRecDepth 20000 in
theorem ggL_law_X4_about : GoodIn wsL_law wsX4_about := goodIn_r _ [521, 52, 236, 237, 238, 5, 239, 217, 218, 219, 78, 79, 80, 81, 58, 243, 244, 245, 246, 247, 248, 233, 234, 235, 267, 268, 269, 270, 271, 272, 249, 250, 251, 273, 274, 275, 276, 277, 278, 279, 280, 281, 282, 283, 284, 762, 763, 764, 765, 766, 767, 768, 769, 770, 771, 772, 773, 774] rfl (by decide +kernel)
set_option maxRecDepth 20000 in
theorem gL_law_X4_about : GoodIn wsL_law (wsV RL 96 RX4 yX4_about wsX4_about) := goodIn_app (goodIn_r _ [518, 519, 520, 5] rfl (by decide +kernel)) ggL_law_X4_about
set_option maxRecDepth 20000 in
theorem ggL_law_X3_known : GoodIn wsL_law wsX3_known := goodIn_r _ [525, 15, 487, 175, 176, 14, 177, 42, 371, 372, 373, 374, 375, 376, 377, 753, 754, 755, 756, 757, 758, 759, 760, 761, 775, 776, 777, 778, 779, 780, 781, 782, 783, 784, 785, 786] rfl (by decide +kernel)
set_option maxRecDepth 20000 in
theorem gL_law_X3_known : GoodIn wsL_law (wsV RL 97 RX3 yX3_known wsX3_known) := goodIn_app (goodIn_r _ [522, 523, 524, 2] rfl (by decide +kernel)) ggL_law_X3_known
set_option maxRecDepth 20000 in
theorem ggL_law_X4_known : GoodIn wsL_law wsX4_known := goodIn_r _ [529, 52, 243, 244, 5, 245, 246, 247, 248, 233, 234, 235, 285, 286, 287, 762, 763, 764, 765, 766, 767, 768, 769, 770, 771, 772, 773, 774] rfl (by decide +kernel)
set_option maxRecDepth 20000 in
theorem gL_law_X4_known : GoodIn wsL_law (wsV RL 100 RX4 yX4_known wsX4_known) := goodIn_app (goodIn_r _ [526, 527, 528, 5] rfl (by decide +kernel)) ggL_law_X4_known
set_option maxRecDepth 20000 in
theorem ggL_law_X3_lodge : GoodIn wsL_law wsX3_lodge := goodIn_r _ [533, 15, 328, 155, 156, 14, 157, 42, 34, 301, 302, 303, 304, 31, 39, 182, 183, 184, 185, 41, 40, 305, 306, 102, 307, 329, 179, 180, 181, 186, 187, 188, 189, 190, 191, 753, 754, 755, 756, 757, 758, 759, 760, 761, 775, 776, 777, 778, 779, 780, 781, 782, 783, 784, 785, 786] rfl (by decide +kernel)
set_option maxRecDepth 20000 in
theorem gL_law_X3_lodge : GoodIn wsL_law (wsV RL 101 RX3 yX3_lodge wsX3_lodge) := goodIn_app (goodIn_r _ [530, 531, 532, 2] rfl (by decide +kernel)) ggL_law_X3_lodge
set_option maxRecDepth 20000 in
theorem ggL_law_X4_lodge : GoodIn wsL_law wsX4_lodge := goodIn_r _ [537, 52, 243, 244, 5, 245, 246, 247, 248, 233, 234, 235, 267, 268, 269, 270, 271, 272, 249, 250, 251, 273, 274, 275, 276, 277, 278, 279, 280, 281, 282, 283, 284, 762, 763, 764, 765, 766, 767, 768, 769, 770, 771, 772, 773, 774] rfl (by decide +kernel)
set_option maxRecDepth 20000 in
theorem gL_law_X4_lodge : GoodIn wsL_law (wsV RL 104 RX4 yX4_lodge wsX4_lodge) := goodIn_app (goodIn_r _ [534, 535, 536, 5] rfl (by decide +kernel)) ggL_law_X4_lodge
set_option maxRecDepth 20000 in
theorem ggL_law_X3_fullest : GoodIn wsL_law wsX3_fullest := goodIn_r _ [541, 15, 328, 155, 156, 14, 157, 42, 34, 371, 372, 373, 374, 375, 376, 377, 753, 754, 755, 756, 757, 758, 759, 760, 761, 775, 776, 777, 778, 779, 780, 781, 782, 783, 784, 785, 786] rfl (by decide +kernel)
set_option maxRecDepth 20000 in
theorem gL_law_X3_fullest : GoodIn wsL_law (wsV RL 105 RX3 yX3_fullest wsX3_fullest) := goodIn_app (goodIn_r _ [538, 539, 540, 2] rfl (by decide +kernel)) ggL_law_X3_fullest
set_option maxRecDepth 20000 in
theorem ggL_law_X4_fullest : GoodIn wsL_law wsX4_fullest := goodIn_r _ [545, 52, 243, 244, 5, 245, 246, 247, 248, 233, 234, 235, 285, 286, 287, 762, 763, 764, 765, 766, 767, 768, 769, 770, 771, 772, 773, 774] rfl (by decide +kernel)
set_option maxRecDepth 20000 in
theorem gL_law_X4_fullest : GoodIn wsL_law (wsV RL 108 RX4 yX4_fullest wsX4_fullest) := goodIn_app (goodIn_r _ [542, 543, 544, 5] rfl (by decide +kernel)) ggL_law_X4_fullest
set_option maxRecDepth 20000 in
theorem ggL_law_X3_talk : GoodIn wsL_law wsX3_talk := goodIn_r _ [549, 15, 295, 550, 551, 552, 14, 553, 31, 753, 754, 755, 756, 757, 758, 759, 760, 761, 775, 776, 777, 778, 779, 780, 781, 782, 783, 784, 785, 786] rfl (by decide +kernel)
set_option maxRecDepth 20000 in
theorem gL_law_X3_talk : GoodIn wsL_law (wsV RL 109 RX3 yX3_talk wsX3_talk) := goodIn_app (goodIn_r _ [546, 547, 548, 2] rfl (by decide +kernel)) ggL_law_X3_talk
set_option maxRecDepth 20000 in
theorem ggL_law_X4_talk : GoodIn wsL_law wsX4_talk := goodIn_r _ [557, 52, 458, 459, 5, 460, 233, 234, 235, 762, 763, 764, 765, 766, 767, 768, 769, 770, 771, 772, 773, 774] rfl (by decide +kernel)
set_option maxRecDepth 20000 in
theorem gL_law_X4_talk : GoodIn wsL_law (wsV RL 112 RX4 yX4_talk wsX4_talk) := goodIn_app (goodIn_r _ [554, 555, 556, 5] rfl (by decide +kernel)) ggL_law_X4_talk
set_option maxRecDepth 20000 in
theorem ggL_law_X3_keep : GoodIn wsL_law wsX3_keep := goodIn_r _ [561, 65, 66, 67, 2, 68, 26, 562, 563, 564, 565, 16, 566, 15, 501, 567, 405, 406, 407, 408, 104, 105, 106, 14, 107, 31, 32, 33, 34, 35, 36, 37, 38, 39, 108, 109, 110, 111, 40, 41, 42, 396, 159, 160, 161, 162, 163, 164, 165, 166, 167, 168, 169, 150, 151, 152, 153, 170, 171, 172, 173, 174, 175, 176, 177, 154, 155, 156, 157, 178, 179, 180, 181, 182, 183, 184, 185, 186, 187, 102, 188, 189, 190, 191, 192, 147, 148, 149, 568, 569, 570, 571, 753, 754, 755, 756, 757, 758, 759, 760, 761, 775, 776, 777, 778, 779, 780, 781, 782, 783, 784, 785, 786] rfl (by decide +kernel)
set_option maxRecDepth 20000 in
theorem gL_law_X3_keep : GoodIn wsL_law (wsV RL 113 RX3 yX3_keep wsX3_keep) := goodIn_app (goodIn_r _ [558, 559, 560, 2] rfl (by decide +kernel)) ggL_law_X3_keep
set_option maxRecDepth 20000 in
theorem ggL_law_X4_keep : GoodIn wsL_law wsX4_keep := goodIn_r _ [575, 52, 53, 354, 355, 5, 356, 78, 79, 80, 81, 58, 413, 414, 415, 416, 220, 221, 222, 255, 256, 257, 258, 259, 260, 261, 262, 263, 233, 234, 235, 252, 253, 254, 264, 265, 266, 243, 244, 245, 246, 247, 248, 267, 268, 269, 270, 271, 272, 249, 250, 251, 273, 274, 275, 276, 277, 278, 279, 280, 281, 282, 283, 284, 240, 241, 242, 285, 286, 287, 762, 763, 764, 765, 766, 767, 768, 769, 770, 771, 772, 773, 774] rfl (by decide +kernel)
set_option maxRecDepth 20000 in
theorem gL_law_X4_keep : GoodIn wsL_law (wsV RL 116 RX4 yX4_keep wsX4_keep) := goodIn_app (goodIn_r _ [572, 573, 574, 5] rfl (by decide +kernel)) ggL_law_X4_keep
set_option maxRecDepth 20000 in
theorem ggL_law_X3_hush : GoodIn wsL_law wsX3_hush := goodIn_r _ [579, 65, 66, 67, 2, 68, 26, 562, 563, 564, 565, 16, 566, 15, 501, 567, 405, 406, 407, 408, 104, 105, 106, 14, 107, 31, 32, 33, 34, 35, 36, 37, 38, 39, 108, 109, 110, 111, 40, 41, 42, 396, 159, 160, 161, 162, 163, 164, 165, 166, 167, 168, 169, 150, 151, 152, 153, 170, 171, 172, 173, 174, 175, 176, 177, 154, 155, 156, 157, 178, 179, 180, 181, 182, 183, 184, 185, 186, 187, 102, 188, 189, 190, 191, 192, 147, 148, 149, 568, 569, 570, 571, 753, 754, 755, 756, 757, 758, 759, 760, 761, 775, 776, 777, 778, 779, 780, 781, 782, 783, 784, 785, 786] rfl (by decide +kernel)
set_option maxRecDepth 20000 in
theorem gL_law_X3_hush : GoodIn wsL_law (wsV RL 117 RX3 yX3_hush wsX3_hush) := goodIn_app (goodIn_r _ [576, 577, 578, 2] rfl (by decide +kernel)) ggL_law_X3_hush
set_option maxRecDepth 20000 in
theorem ggL_law_X4_hush : GoodIn wsL_law wsX4_hush := goodIn_r _ [583, 52, 53, 354, 355, 5, 356, 78, 79, 80, 81, 58, 413, 414, 415, 416, 220, 221, 222, 255, 256, 257, 258, 259, 260, 261, 262, 263, 233, 234, 235, 252, 253, 254, 264, 265, 266, 243, 244, 245, 246, 247, 248, 267, 268, 269, 270, 271, 272, 249, 250, 251, 273, 274, 275, 276, 277, 278, 279, 280, 281, 282, 283, 284, 240, 241, 242, 285, 286, 287, 762, 763, 764, 765, 766, 767, 768, 769, 770, 771, 772, 773, 774] rfl (by decide +kernel)
set_option maxRecDepth 20000 in
theorem gL_law_X4_hush : GoodIn wsL_law (wsV RL 120 RX4 yX4_hush wsX4_hush) := goodIn_app (goodIn_r _ [580, 581, 582, 5] rfl (by decide +kernel)) ggL_law_X4_hush
set_option maxRecDepth 20000 in
theorem ggL_law_X3_add : GoodIn wsL_law wsX3_add := goodIn_r _ [587, 15, 501, 16, 327, 130, 2, 131, 65, 66, 67, 68, 26, 104, 105, 106, 14, 107, 31, 32, 33, 34, 35, 36, 37, 38, 39, 108, 109, 110, 111, 40, 41, 42, 588, 127, 128, 129, 132, 133, 134, 135, 136, 137, 138, 139, 396, 159, 160, 161, 162, 163, 164, 165, 166, 167, 168, 169, 150, 151, 152, 153, 170, 171, 172, 173, 174, 175, 176, 177, 154, 155, 156, 157, 178, 179, 180, 181, 182, 183, 184, 185, 186, 187, 102, 188, 189, 190, 191, 192, 147, 148, 149, 328, 301, 302, 303, 304, 305, 306, 307, 753, 754, 755, 756, 757, 758, 759, 760, 761, 775, 776, 777, 778, 779, 780, 781, 782, 783, 784, 785, 786] rfl (by decide +kernel)
set_option maxRecDepth 20000 in
theorem gL_law_X3_add : GoodIn wsL_law (wsV RL 121 RX3 yX3_add wsX3_add) := goodIn_app (goodIn_r _ [584, 585, 586, 2] rfl (by decide +kernel)) ggL_law_X3_add
set_option maxRecDepth 20000 in
theorem ggL_law_X4_add : GoodIn wsL_law wsX4_add := goodIn_r _ [592, 52, 53, 227, 228, 5, 229, 217, 218, 219, 354, 355, 356, 78, 79, 80, 81, 58, 220, 221, 222, 230, 231, 232, 233, 234, 235, 255, 256, 257, 258, 259, 260, 261, 262, 263, 252, 253, 254, 264, 265, 266, 243, 244, 245, 246, 247, 248, 267, 268, 269, 270, 271, 272, 249, 250, 251, 273, 274, 275, 276, 277, 278, 279, 280, 281, 282, 283, 284, 240, 241, 242, 285, 286, 287, 762, 763, 764, 765, 766, 767, 768, 769, 770, 771, 772, 773, 774] rfl (by decide +kernel)
set_option maxRecDepth 20000 in
theorem gL_law_X4_add : GoodIn wsL_law (wsV RL 124 RX4 yX4_add wsX4_add) := goodIn_app (goodIn_r _ [589, 590, 591, 5] rfl (by decide +kernel)) ggL_law_X4_add
set_option maxRecDepth 20000 in
theorem ggL_law_X3_two : GoodIn wsL_law wsX3_two := goodIn_r _ [596, 27, 327, 130, 2, 131, 65, 66, 67, 68, 26, 597, 598, 599, 600, 16, 15, 104, 105, 106, 14, 107, 31, 32, 33, 34, 35, 36, 37, 38, 39, 108, 109, 110, 111, 40, 41, 42, 588, 127, 128, 129, 132, 133, 134, 135, 136, 137, 138, 139, 396, 159, 160, 161, 162, 163, 164, 165, 166, 167, 168, 169, 150, 151, 152, 153, 170, 171, 172, 173, 174, 175, 176, 177, 154, 155, 156, 157, 178, 179, 180, 181, 182, 183, 184, 185, 186, 187, 102, 188, 189, 190, 191, 192, 147, 148, 149, 328, 301, 302, 303, 304, 305, 306, 307, 753, 754, 755, 756, 757, 758, 759, 760, 761, 775, 776, 777, 778, 779, 780, 781, 782, 783, 784, 785, 786] rfl (by decide +kernel)
set_option maxRecDepth 20000 in
theorem gL_law_X3_two : GoodIn wsL_law (wsV RL 125 RX3 yX3_two wsX3_two) := goodIn_app (goodIn_r _ [593, 594, 595, 2] rfl (by decide +kernel)) ggL_law_X3_two
set_option maxRecDepth 20000 in
theorem ggL_law_X4_two : GoodIn wsL_law wsX4_two := goodIn_r _ [604, 227, 228, 5, 229, 217, 218, 219, 354, 355, 356, 78, 79, 80, 81, 58, 605, 606, 607, 608, 52, 53, 220, 221, 222, 230, 231, 232, 233, 234, 235, 255, 256, 257, 258, 259, 260, 261, 262, 263, 252, 253, 254, 264, 265, 266, 243, 244, 245, 246, 247, 248, 267, 268, 269, 270, 271, 272, 249, 250, 251, 273, 274, 275, 276, 277, 278, 279, 280, 281, 282, 283, 284, 240, 241, 242, 285, 286, 287, 762, 763, 764, 765, 766, 767, 768, 769, 770, 771, 772, 773, 774] rfl (by decide +kernel)
set_option maxRecDepth 20000 in
theorem gL_law_X4_two : GoodIn wsL_law (wsV RL 128 RX4 yX4_two wsX4_two) := goodIn_app (goodIn_r _ [601, 602, 603, 5] rfl (by decide +kernel)) ggL_law_X4_two
set_option maxRecDepth 20000 in
theorem ggL_law_X3_rain : GoodIn wsL_law wsX3_rain := goodIn_r _ [612, 16, 327, 130, 2, 131, 613, 614, 615, 616, 617, 65, 66, 67, 68, 26, 618, 619, 620, 621, 15, 295, 104, 105, 106, 14, 107, 31, 32, 33, 34, 35, 36, 37, 38, 39, 108, 109, 110, 111, 40, 41, 42, 622, 167, 168, 169, 150, 151, 152, 153, 430, 163, 164, 165, 166, 170, 171, 172, 173, 174, 175, 176, 177, 154, 155, 156, 157, 178, 179, 180, 181, 182, 183, 184, 185, 186, 187, 102, 188, 189, 190, 191, 192, 147, 148, 149, 328, 371, 372, 373, 374, 375, 376, 377, 623, 624, 625, 626, 627, 628, 629, 630, 631, 632, 633, 634, 753, 754, 755, 756, 757, 758, 759, 760, 761, 775, 776, 777, 778, 779, 780, 781, 782, 783, 784, 785, 786] rfl (by decide +kernel)
set_option maxRecDepth 20000 in
theorem gL_law_X3_rain : GoodIn wsL_law (wsV RL 129 RX3 yX3_rain wsX3_rain) := goodIn_app (goodIn_r _ [609, 610, 611, 2] rfl (by decide +kernel)) ggL_law_X3_rain
set_option maxRecDepth 20000 in
theorem ggL_law_X4_rain : GoodIn wsL_law wsX4_rain := goodIn_r _ [638, 52, 53, 227, 228, 5, 229, 217, 218, 219, 639, 640, 641, 642, 643, 78, 79, 80, 81, 58, 220, 221, 222, 249, 250, 251, 644, 645, 646, 233, 234, 235, 261, 262, 263, 252, 253, 254, 258, 259, 260, 264, 265, 266, 243, 244, 245, 246, 247, 248, 267, 268, 269, 270, 271, 272, 273, 274, 275, 276, 277, 278, 279, 280, 281, 282, 283, 284, 240, 241, 242, 647, 648, 649, 650, 651, 652, 762, 763, 764, 765, 766, 767, 768, 769, 770, 771, 772, 773, 774] rfl (by decide +kernel)
set_option maxRecDepth 20000 in
theorem gL_law_X4_rain : GoodIn wsL_law (wsV RL 133 RX4 yX4_rain wsX4_rain) := goodIn_app (goodIn_r _ [635, 636, 637, 5] rfl (by decide +kernel)) ggL_law_X4_rain
set_option maxRecDepth 20000 in
theorem ggL_law_X3_mean : GoodIn wsL_law wsX3_mean := goodIn_r _ [656, 15, 295, 324, 325, 152, 326, 613, 614, 615, 2, 616, 617, 65, 66, 67, 68, 26, 328, 155, 156, 14, 157, 42, 34, 301, 302, 303, 304, 31, 39, 182, 183, 184, 185, 41, 40, 305, 306, 102, 307, 626, 627, 628, 629, 630, 631, 632, 633, 634, 753, 754, 755, 756, 757, 758, 759, 760, 761, 775, 776, 777, 778, 779, 780, 781, 782, 783, 784, 785, 786] rfl (by decide +kernel)
set_option maxRecDepth 20000 in
theorem gL_law_X3_mean : GoodIn wsL_law (wsV RL 134 RX3 yX3_mean wsX3_mean) := goodIn_app (goodIn_r _ [653, 654, 655, 2] rfl (by decide +kernel)) ggL_law_X3_mean
set_option maxRecDepth 20000 in
theorem ggL_law_X4_mean : GoodIn wsL_law wsX4_mean := goodIn_r _ [660, 52, 217, 218, 5, 219, 639, 640, 641, 642, 643, 78, 79, 80, 81, 58, 243, 244, 245, 246, 247, 248, 233, 234, 235, 661, 662, 663, 458, 459, 460, 270, 271, 272, 249, 250, 251, 273, 274, 275, 276, 277, 278, 279, 280, 281, 282, 283, 284, 647, 648, 649, 650, 651, 652, 762, 763, 764, 765, 766, 767, 768, 769, 770, 771, 772, 773, 774] rfl (by decide +kernel)
set_option maxRecDepth 20000 in
theorem gL_law_X4_mean : GoodIn wsL_law (wsV RL 138 RX4 yX4_mean wsX4_mean) := goodIn_app (goodIn_r _ [657, 658, 659, 5] rfl (by decide +kernel)) ggL_law_X4_mean
set_option maxRecDepth 20000 in
theorem ggL_law_X3_whatWas : GoodIn wsL_law wsX3_whatWas := goodIn_r _ [667, 15, 16, 292, 293, 296, 137, 138, 14, 139, 31, 65, 66, 67, 2, 68, 26, 104, 105, 106, 107, 32, 33, 34, 35, 36, 37, 38, 39, 108, 109, 110, 111, 40, 41, 42, 297, 298, 299, 300, 668, 669, 670, 671, 25, 24, 328, 155, 156, 157, 301, 302, 303, 304, 182, 183, 184, 185, 305, 306, 102, 307, 430, 163, 164, 165, 166, 167, 168, 169, 150, 151, 152, 153, 170, 171, 172, 173, 174, 175, 176, 177, 154, 178, 179, 180, 181, 186, 187, 188, 189, 190, 191, 192, 147, 148, 149, 753, 754, 755, 756, 757, 758, 759, 760, 761, 775, 776, 777, 778, 779, 780, 781, 782, 783, 784, 785, 786] rfl (by decide +kernel)
set_option maxRecDepth 20000 in
theorem gL_law_X3_whatWas : GoodIn wsL_law (wsV RL 139 RX3 yX3_whatWas wsX3_whatWas) := goodIn_app (goodIn_r _ [664, 665, 666, 2] rfl (by decide +kernel)) ggL_law_X3_whatWas
set_option maxRecDepth 20000 in
theorem ggL_law_X4_whatWas : GoodIn wsL_law wsX4_whatWas := goodIn_r _ [675, 52, 53, 676, 57, 236, 237, 238, 5, 239, 217, 218, 219, 78, 79, 80, 81, 58, 233, 234, 235, 220, 221, 222, 243, 244, 245, 246, 247, 248, 270, 271, 272, 249, 250, 251, 273, 274, 275, 276, 277, 278, 279, 280, 281, 282, 283, 284, 258, 259, 260, 261, 262, 263, 252, 253, 254, 264, 265, 266, 267, 268, 269, 240, 241, 242, 762, 763, 764, 765, 766, 767, 768, 769, 770, 771, 772, 773, 774] rfl (by decide +kernel)
set_option maxRecDepth 20000 in
theorem gL_law_X4_whatWas : GoodIn wsL_law (wsV RL 142 RX4 yX4_whatWas wsX4_whatWas) := goodIn_app (goodIn_r _ [672, 673, 674, 5] rfl (by decide +kernel)) ggL_law_X4_whatWas
set_option maxRecDepth 20000 in
theorem ggL_law_X3_row : GoodIn wsL_law wsX3_row := goodIn_r _ [680, 25, 24, 65, 66, 67, 2, 68, 26, 753, 754, 755, 756, 757, 758, 759, 760, 761] rfl (by decide +kernel)
set_option maxRecDepth 20000 in
theorem gL_law_X3_row : GoodIn wsL_law (wsV RL 143 RX3 yX3_row wsX3_row) := goodIn_app (goodIn_r _ [677, 678, 679, 2] rfl (by decide +kernel)) ggL_law_X3_row
set_option maxRecDepth 20000 in
theorem ggL_law_X4_row : GoodIn wsL_law wsX4_row := goodIn_r _ [684, 676, 57, 354, 355, 5, 356, 78, 79, 80, 81, 58, 762, 763, 764, 765, 766, 767, 768, 769, 770, 771, 772, 773, 774] rfl (by decide +kernel)
set_option maxRecDepth 20000 in
theorem gL_law_X4_row : GoodIn wsL_law (wsV RL 146 RX4 yX4_row wsX4_row) := goodIn_app (goodIn_r _ [681, 682, 683, 5] rfl (by decide +kernel)) ggL_law_X4_row
set_option maxRecDepth 20000 in
theorem ggL_law_X3_judge : GoodIn wsL_law wsX3_judge := goodIn_r _ [688, 25, 689, 690, 691, 2, 692, 16, 15, 24, 295, 104, 105, 106, 14, 107, 31, 32, 33, 34, 35, 36, 37, 38, 39, 108, 109, 110, 111, 40, 41, 42, 371, 372, 373, 374, 375, 376, 377, 430, 163, 164, 165, 166, 167, 168, 169, 150, 151, 152, 153, 170, 171, 172, 173, 174, 175, 176, 177, 154, 155, 156, 157, 178, 179, 180, 181, 182, 183, 184, 185, 186, 187, 102, 188, 189, 190, 191, 192, 147, 148, 149, 753, 754, 755, 756, 757, 758, 759, 760, 761, 775, 776, 777, 778, 779, 780, 781, 782, 783, 784, 785, 786] rfl (by decide +kernel)
set_option maxRecDepth 20000 in
theorem gL_law_X3_judge : GoodIn wsL_law (wsV RL 147 RX3 yX3_judge wsX3_judge) := goodIn_app (goodIn_r _ [685, 686, 687, 2] rfl (by decide +kernel)) ggL_law_X3_judge
set_option maxRecDepth 20000 in
theorem ggL_law_X4_judge : GoodIn wsL_law wsX4_judge := goodIn_r _ [696, 676, 52, 53, 57, 220, 221, 5, 222, 458, 459, 460, 233, 234, 235, 285, 286, 287, 258, 259, 260, 261, 262, 263, 252, 253, 254, 264, 265, 266, 243, 244, 245, 246, 247, 248, 267, 268, 269, 270, 271, 272, 249, 250, 251, 273, 274, 275, 276, 277, 278, 279, 280, 281, 282, 283, 284, 240, 241, 242, 762, 763, 764, 765, 766, 767, 768, 769, 770, 771, 772, 773, 774] rfl (by decide +kernel)
set_option maxRecDepth 20000 in
theorem gL_law_X4_judge : GoodIn wsL_law (wsV RL 150 RX4 yX4_judge wsX4_judge) := goodIn_app (goodIn_r _ [693, 694, 695, 5] rfl (by decide +kernel)) ggL_law_X4_judge
set_option maxRecDepth 20000 in
theorem ggL_law_X3_clear : GoodIn wsL_law wsX3_clear := goodIn_r _ [700, 25, 753, 754, 755, 756, 757, 758, 759, 760, 761] rfl (by decide +kernel)
set_option maxRecDepth 20000 in
theorem gL_law_X3_clear : GoodIn wsL_law (wsV RL 151 RX3 yX3_clear wsX3_clear) := goodIn_app (goodIn_r _ [697, 698, 699, 2] rfl (by decide +kernel)) ggL_law_X3_clear
set_option maxRecDepth 20000 in
theorem ggL_law_X4_clear : GoodIn wsL_law wsX4_clear := goodIn_r _ [704, 676, 762, 763, 764, 765, 766, 767, 768, 769, 770, 771, 772, 773, 774] rfl (by decide +kernel)
set_option maxRecDepth 20000 in
theorem gL_law_X4_clear : GoodIn wsL_law (wsV RL 154 RX4 yX4_clear wsX4_clear) := goodIn_app (goodIn_r _ [701, 702, 703, 5] rfl (by decide +kernel)) ggL_law_X4_clear
set_option maxRecDepth 20000 in
theorem ggL_law_X3_lots : GoodIn wsL_law wsX3_lots := goodIn_r _ [708, 16, 15, 501, 709, 710, 711, 566, 295, 65, 66, 67, 2, 68, 26, 104, 105, 106, 14, 107, 31, 32, 33, 34, 35, 36, 37, 38, 39, 108, 109, 110, 111, 40, 41, 42, 361, 133, 134, 135, 136, 137, 138, 139, 130, 131, 396, 159, 160, 161, 162, 163, 164, 165, 166, 167, 168, 169, 150, 151, 152, 153, 170, 171, 172, 173, 174, 175, 176, 177, 154, 155, 156, 157, 178, 179, 180, 181, 182, 183, 184, 185, 186, 187, 102, 188, 189, 190, 191, 192, 147, 148, 149, 301, 302, 303, 304, 305, 306, 307, 753, 754, 755, 756, 757, 758, 759, 760, 761, 775, 776, 777, 778, 779, 780, 781, 782, 783, 784, 785, 786] rfl (by decide +kernel)
set_option maxRecDepth 20000 in
theorem gL_law_X3_lots : GoodIn wsL_law (wsV RL 155 RX3 yX3_lots wsX3_lots) := goodIn_app (goodIn_r _ [705, 706, 707, 2] rfl (by decide +kernel)) ggL_law_X3_lots
set_option maxRecDepth 20000 in
theorem ggL_law_X4_lots : GoodIn wsL_law wsX4_lots := goodIn_r _ [715, 716, 52, 53, 78, 79, 80, 5, 81, 58, 217, 218, 219, 220, 221, 222, 233, 234, 235, 717, 718, 719, 720, 721, 722, 723, 255, 256, 257, 258, 259, 260, 261, 262, 263, 252, 253, 254, 264, 265, 266, 243, 244, 245, 246, 247, 248, 267, 268, 269, 270, 271, 272, 249, 250, 251, 273, 274, 275, 276, 277, 278, 279, 280, 281, 282, 283, 284, 240, 241, 242, 285, 286, 287, 661, 662, 663, 458, 459, 460, 762, 763, 764, 765, 766, 767, 768, 769, 770, 771, 772, 773, 774] rfl (by decide +kernel)
set_option maxRecDepth 20000 in
theorem gL_law_X4_lots : GoodIn wsL_law (wsV RL 158 RX4 yX4_lots wsX4_lots) := goodIn_app (goodIn_r _ [712, 713, 714, 5] rfl (by decide +kernel)) ggL_law_X4_lots
set_option maxRecDepth 20000 in
theorem ggL_law_X3_image : GoodIn wsL_law wsX3_image := goodIn_r _ [727, 17, 15, 18, 394, 104, 105, 106, 14, 107, 31, 32, 33, 34, 35, 36, 37, 38, 39, 108, 109, 110, 111, 40, 41, 42, 753, 754, 755, 756, 757, 758, 759, 760, 761, 775, 776, 777, 778, 779, 780, 781, 782, 783, 784, 785, 786] rfl (by decide +kernel)
set_option maxRecDepth 20000 in
theorem gL_law_X3_image : GoodIn wsL_law (wsV RL 159 RX3 yX3_image wsX3_image) := goodIn_app (goodIn_r _ [724, 725, 726, 2] rfl (by decide +kernel)) ggL_law_X3_image
set_option maxRecDepth 20000 in
theorem ggL_law_X4_image : GoodIn wsL_law wsX4_image := goodIn_r _ [731, 52, 54, 732, 220, 221, 5, 222, 762, 763, 764, 765, 766, 767, 768, 769, 770, 771, 772, 773, 774] rfl (by decide +kernel)
set_option maxRecDepth 20000 in
theorem gL_law_X4_image : GoodIn wsL_law (wsV RL 162 RX4 yX4_image wsX4_image) := goodIn_app (goodIn_r _ [728, 729, 730, 5] rfl (by decide +kernel)) ggL_law_X4_image
set_option maxRecDepth 20000 in
theorem ggL_law_X3_on : GoodIn wsL_law wsX3_on := goodIn_r _ [736, 18, 15, 17, 394, 65, 66, 67, 2, 68, 26, 104, 105, 106, 14, 107, 31, 32, 33, 34, 35, 36, 37, 38, 39, 108, 109, 110, 111, 40, 41, 42, 753, 754, 755, 756, 757, 758, 759, 760, 761, 775, 776, 777, 778, 779, 780, 781, 782, 783, 784, 785, 786] rfl (by decide +kernel)
set_option maxRecDepth 20000 in
theorem gL_law_X3_on : GoodIn wsL_law (wsV RL 163 RX3 yX3_on wsX3_on) := goodIn_app (goodIn_r _ [733, 734, 735, 2] rfl (by decide +kernel)) ggL_law_X3_on
set_option maxRecDepth 20000 in
theorem ggL_law_X4_on : GoodIn wsL_law wsX4_on := goodIn_r _ [740, 732, 54, 52, 78, 79, 80, 5, 81, 58, 220, 221, 222, 762, 763, 764, 765, 766, 767, 768, 769, 770, 771, 772, 773, 774] rfl (by decide +kernel)
set_option maxRecDepth 20000 in
theorem gL_law_X4_on : GoodIn wsL_law (wsV RL 166 RX4 yX4_on wsX4_on) := goodIn_app (goodIn_r _ [737, 738, 739, 5] rfl (by decide +kernel)) ggL_law_X4_on
set_option maxRecDepth 20000 in
theorem ggL_law_X3_count : GoodIn wsL_law wsX3_count := goodIn_r _ [744, 15, 501, 394, 395, 295, 25, 22, 64, 26, 301, 302, 303, 14, 304, 31, 39, 182, 183, 184, 185, 41, 40, 305, 306, 102, 307, 745, 746, 747, 748, 753, 754, 755, 756, 757, 758, 759, 760, 761, 775, 776, 777, 778, 779, 780, 781, 782, 783, 784, 785, 786, 787, 788] rfl (by decide +kernel)
set_option maxRecDepth 20000 in
theorem gL_law_X3_count : GoodIn wsL_law (wsV RL 167 RX3 yX3_count wsX3_count) := goodIn_app (goodIn_r _ [741, 742, 743, 2] rfl (by decide +kernel)) ggL_law_X3_count
set_option maxRecDepth 20000 in
theorem ggL_law_X4_count : GoodIn wsL_law wsX4_count := goodIn_r _ [752, 58, 52, 676, 77, 217, 218, 5, 219, 458, 459, 460, 233, 234, 235, 661, 662, 663, 270, 271, 272, 249, 250, 251, 273, 274, 275, 276, 277, 278, 279, 280, 281, 282, 283, 284, 762, 763, 764, 765, 766, 767, 768, 769, 770, 771, 772, 773, 774] rfl (by decide +kernel)
set_option maxRecDepth 20000 in
theorem gL_law_X4_count : GoodIn wsL_law (wsV RL 170 RX4 yX4_count wsX4_count) := goodIn_app (goodIn_r _ [749, 750, 751, 5] rfl (by decide +kernel)) ggL_law_X4_count

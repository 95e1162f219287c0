/-! the tables of the mini machine hold: each entry's words stand in lw_tbl -/
def mm_rt (k : Nat) : Option FieldType := match k with | 0 => none | 1 => some .int | 2 => some .boolean | _ => some .long
def mm_has (i : Nat) (w : Cond) : Bool := decide (lw_tbl[i]? = some w)
theorem mm_has_in {i : Nat} {w : Cond} (h : mm_has i w = true) : w ∈ lw_tbl := List.mem_of_getElem? (of_decide_eq_true h)
/-- the words that a callee may keep -/
def mm_T : List Cond := lw_tbl.filter goodWord
theorem mm_good : GoodIn mm_T mm_T := fun w hw => ⟨hw, good_of_word (List.mem_filter.mp hw).2⟩
theorem mm_inT {w : Cond} (h : w ∈ lw_tbl) (hg : goodWord w = true) : w ∈ mm_T := List.mem_filter.mpr ⟨h, hg⟩
theorem mm_sub1 {w : Cond} (h : w ∈ tables_1_1) : w ∈ lw_tbl := List.mem_append_right _ (List.mem_append_left _ h)
theorem mm_sub2 {w : Cond} (h : w ∈ tables_1_2) : w ∈ lw_tbl := List.mem_append_right _ (List.mem_append_right _ (List.mem_append_left _ h))
theorem mm_sub3 {w : Cond} (h : w ∈ tables_1_3) : w ∈ lw_tbl := List.mem_append_right _ (List.mem_append_right _ (List.mem_append_right _ (List.mem_append_left _ h)))
theorem mm_sub4 {w : Cond} (h : w ∈ tables_1_4) : w ∈ lw_tbl := List.mem_append_right _ (List.mem_append_right _ (List.mem_append_right _ (List.mem_append_right _ (List.mem_append_left _ h))))
theorem mm_sub5 {w : Cond} (h : w ∈ tables_1_5) : w ∈ lw_tbl := List.mem_append_right _ (List.mem_append_right _ (List.mem_append_right _ (List.mem_append_right _ (List.mem_append_right _ (List.mem_append_left _ h)))))
theorem mm_sub6 {w : Cond} (h : w ∈ tables_1_6) : w ∈ lw_tbl := List.mem_append_right _ (List.mem_append_right _ (List.mem_append_right _ (List.mem_append_right _ (List.mem_append_right _ (List.mem_append_right _ (List.mem_append_left _ h))))))
theorem mm_sub7 {w : Cond} (h : w ∈ tables_1_7) : w ∈ lw_tbl := List.mem_append_right _ (List.mem_append_right _ (List.mem_append_right _ (List.mem_append_right _ (List.mem_append_right _ (List.mem_append_right _ (List.mem_append_right _ (h)))))))
abbrev mm_nm (K : mm_K) : MethodName := K.2.2.2.2.1
abbrev mm_cw (K : mm_K) : Cond := Cond.code (mm_nm K) K.1 K.2.1 (mm_rt K.2.2.1)
theorem cwX0_add : Cond.code yX0_add cX0_add 2 (some .int) ∈ lw_tbl := mm_sub4 (List.mem_of_getElem? (i := 147) rfl)
theorem cwX0_kindOf : Cond.code yX0_kindOf cX0_kindOf 2 (some .int) ∈ lw_tbl := mm_sub4 (List.mem_of_getElem? (i := 159) rfl)
theorem cwX0_isUnder : Cond.code yX0_isUnder cX0_isUnder 4 (some .boolean) ∈ lw_tbl := mm_sub4 (List.mem_of_getElem? (i := 232) rfl)
theorem cwX0_perform : Cond.code yX0_perform cX0_perform 4 (some .int) ∈ lw_tbl := mm_sub4 (List.mem_of_getElem? (i := 155) rfl)
theorem cwX0_own : Cond.code yX0_own cX0_own 4 (some .int) ∈ lw_tbl := mm_sub4 (List.mem_of_getElem? (i := 163) rfl)
theorem cwX0_runFrom : Cond.code yX0_runFrom cX0_runFrom 7 (some .int) ∈ lw_tbl := mm_sub4 (List.mem_of_getElem? (i := 167) rfl)
theorem cwX0_runOfWord : Cond.code yX0_runOfWord cX0_runOfWord 4 (some .int) ∈ lw_tbl := mm_sub4 (List.mem_of_getElem? (i := 175) rfl)
theorem cwX0_runUnderWord : Cond.code yX0_runUnderWord cX0_runUnderWord 5 (some .int) ∈ lw_tbl := mm_sub4 (List.mem_of_getElem? (i := 179) rfl)
theorem cwX1_weigh : Cond.code yX1_weigh cX1_weigh 8 none ∈ lw_tbl := mm_sub3 (List.mem_of_getElem? (i := 180) rfl)
theorem cwX1_ofOne : Cond.code yX1_ofOne cX1_ofOne 3 (some .int) ∈ lw_tbl := mm_sub3 (List.mem_of_getElem? (i := 189) rfl)
theorem cwX1_ofAll : Cond.code yX1_ofAll cX1_ofAll 6 (some .long) ∈ lw_tbl := mm_sub3 (List.mem_of_getElem? (i := 185) rfl)
theorem cwX1_belowAll : Cond.code yX1_belowAll cX1_belowAll 5 (some .long) ∈ lw_tbl := mm_sub3 (List.mem_of_getElem? (i := 193) rfl)
theorem cwX1_together : Cond.code yX1_together cX1_together 5 (some .int) ∈ lw_tbl := mm_sub3 (List.mem_of_getElem? (i := 204) rfl)
theorem cwX1_bestSet : Cond.code yX1_bestSet cX1_bestSet 8 (some .int) ∈ lw_tbl := mm_sub3 (List.mem_of_getElem? (i := 214) rfl)
theorem cwX1_drawNight : Cond.code yX1_drawNight cX1_drawNight 5 (some .int) ∈ lw_tbl := mm_sub4 (List.mem_of_getElem? (i := 75) rfl)
theorem cwX2_forget : Cond.code yX2_forget cX2_forget 3 none ∈ lw_tbl := mm_sub2 (List.mem_of_getElem? (i := 104) rfl)
theorem cwX2_give : Cond.code yX2_give cX2_give 4 (some .int) ∈ lw_tbl := mm_sub4 (List.mem_of_getElem? (i := 85) rfl)
theorem cwX2_answer : Cond.code yX2_answer cX2_answer 5 (some .int) ∈ lw_tbl := mm_sub4 (List.mem_of_getElem? (i := 101) rfl)
theorem cwX2_depict : Cond.code yX2_depict cX2_depict 2 none ∈ lw_tbl := mm_sub4 (List.mem_of_getElem? (i := 113) rfl)
theorem cwX2_layBack : Cond.code yX2_layBack cX2_layBack 3 none ∈ lw_tbl := mm_sub4 (List.mem_of_getElem? (i := 122) rfl)
theorem cwX3_take : Cond.code yX3_take cX3_take 2 (some .int) ∈ lw_tbl := mm_sub2 (List.mem_of_getElem? (i := 163) rfl)
theorem cwX3_proclaim : Cond.code yX3_proclaim cX3_proclaim 2 (some .int) ∈ lw_tbl := mm_sub2 (List.mem_of_getElem? (i := 171) rfl)
theorem cwX3_readText : Cond.code yX3_readText cX3_readText 2 none ∈ lw_tbl := mm_sub2 (List.mem_of_getElem? (i := 175) rfl)
theorem cwX3_readExpression : Cond.code yX3_readExpression cX3_readExpression 5 none ∈ lw_tbl := mm_sub2 (List.mem_of_getElem? (i := 179) rfl)
theorem cwX3_readOperand : Cond.code yX3_readOperand cX3_readOperand 3 none ∈ lw_tbl := mm_sub2 (List.mem_of_getElem? (i := 183) rfl)
theorem cwX3_readNumber : Cond.code yX3_readNumber cX3_readNumber 3 none ∈ lw_tbl := mm_sub2 (List.mem_of_getElem? (i := 194) rfl)
theorem cwX3_next : Cond.code yX3_next cX3_next 1 (some .int) ∈ lw_tbl := mm_sub2 (List.mem_of_getElem? (i := 187) rfl)
theorem cwX3_skips : Cond.code yX3_skips cX3_skips 2 (some .boolean) ∈ lw_tbl := mm_sub2 (List.mem_of_getElem? (i := 205) rfl)
theorem cwX3_add : Cond.code yX3_add cX3_add 2 none ∈ lw_tbl := mm_sub2 (List.mem_of_getElem? (i := 198) rfl)
theorem cwX3_isDigit : Cond.code yX3_isDigit cX3_isDigit 1 (some .boolean) ∈ lw_tbl := mm_sub2 (List.mem_of_getElem? (i := 190) rfl)
theorem cwX3_isName : Cond.code yX3_isName cX3_isName 1 (some .boolean) ∈ lw_tbl := mm_sub2 (List.mem_of_getElem? (i := 201) rfl)
theorem cwX3_isSign : Cond.code yX3_isSign cX3_isSign 2 (some .boolean) ∈ lw_tbl := mm_sub2 (List.mem_of_getElem? (i := 208) rfl)
theorem cwX3_mishearing : Cond.code yX3_mishearing cX3_mishearing 6 (some .int) ∈ lw_tbl := mm_sub2 (List.mem_of_getElem? (i := 216) rfl)
theorem cwX3_workOut : Cond.code yX3_workOut cX3_workOut 8 (some .int) ∈ lw_tbl := mm_sub2 (List.mem_of_getElem? (i := 224) rfl)
theorem cwX3_valueOf : Cond.code yX3_valueOf cX3_valueOf 6 (some .int) ∈ lw_tbl := mm_sub2 (List.mem_of_getElem? (i := 235) rfl)
theorem cwX3_doStep : Cond.code yX3_doStep cX3_doStep 3 none ∈ lw_tbl := mm_sub3 (List.mem_of_getElem? (i := 2) rfl)
theorem cwX3_joined : Cond.code yX3_joined cX3_joined 3 (some .int) ∈ lw_tbl := mm_sub3 (List.mem_of_getElem? (i := 5) rfl)
theorem cwX3_push : Cond.code yX3_push cX3_push 2 none ∈ lw_tbl := mm_sub2 (List.mem_of_getElem? (i := 232) rfl)
theorem cwX3_pop : Cond.code yX3_pop cX3_pop 1 (some .int) ∈ lw_tbl := mm_sub2 (List.mem_of_getElem? (i := 228) rfl)
theorem cwX4_cellOf : Cond.code yX4_cellOf cX4_cellOf 4 (some .int) ∈ lw_tbl := mm_sub2 (List.mem_of_getElem? (i := 137) rfl)
theorem cwX4_mayBe : Cond.code yX4_mayBe cX4_mayBe 3 (some .boolean) ∈ lw_tbl := mm_sub2 (List.mem_of_getElem? (i := 84) rfl)
theorem cwX4_get : Cond.code yX4_get cX4_get 3 (some .int) ∈ lw_tbl := mm_sub2 (List.mem_of_getElem? (i := 220) rfl)
theorem cwX4_the : Cond.code yX4_the cX4_the 2 (some .int) ∈ lw_tbl := mm_sub2 (List.mem_of_getElem? (i := 100) rfl)
theorem cwX4_isPost : Cond.code yX4_isPost cX4_isPost 2 (some .boolean) ∈ lw_tbl := mm_sub2 (List.mem_of_getElem? (i := 155) rfl)
theorem cwX4_areAlike : Cond.code yX4_areAlike cX4_areAlike 1 (some .boolean) ∈ lw_tbl := mm_sub3 (List.mem_of_getElem? (i := 105) rfl)
theorem cwX4_apart : Cond.code yX4_apart cX4_apart 3 (some .int) ∈ lw_tbl := mm_sub3 (List.mem_of_getElem? (i := 37) rfl)
theorem cwX4_addPost : Cond.code yX4_addPost cX4_addPost 5 (some .int) ∈ lw_tbl := mm_sub2 (List.mem_of_getElem? (i := 96) rfl)
theorem cwX4_become : Cond.code yX4_become cX4_become 5 (some .int) ∈ lw_tbl := mm_sub2 (List.mem_of_getElem? (i := 143) rfl)
theorem cwX4_makeRoom : Cond.code yX4_makeRoom cX4_makeRoom 1 none ∈ lw_tbl := mm_sub2 (List.mem_of_getElem? (i := 147) rfl)
theorem cwX4_takeBack : Cond.code yX4_takeBack cX4_takeBack 2 (some .int) ∈ lw_tbl := mm_sub4 (List.mem_of_getElem? (i := 131) rfl)
theorem cwX4_doAgain : Cond.code yX4_doAgain cX4_doAgain 2 (some .int) ∈ lw_tbl := mm_sub4 (List.mem_of_getElem? (i := 139) rfl)
theorem cwX5_read : Cond.code yX5_read cX5_read 10 (some .boolean) ∈ lw_tbl := mm_sub4 (List.mem_of_getElem? (i := 24) rfl)
theorem cwX5_mayBe : Cond.code yX5_mayBe cX5_mayBe 4 (some .boolean) ∈ lw_tbl := mm_sub4 (List.mem_of_getElem? (i := 14) rfl)
theorem cwX5_narrow : Cond.code yX5_narrow cX5_narrow 7 (some .boolean) ∈ lw_tbl := mm_sub4 (List.mem_of_getElem? (i := 32) rfl)
theorem cwX5_fits : Cond.code yX5_fits cX5_fits 3 (some .boolean) ∈ lw_tbl := mm_sub4 (List.mem_of_getElem? (i := 44) rfl)
theorem cwX5_fitsAll : Cond.code yX5_fitsAll cX5_fitsAll 4 (some .boolean) ∈ lw_tbl := mm_sub4 (List.mem_of_getElem? (i := 65) rfl)
theorem cwX5_leastStart : Cond.code yX5_leastStart cX5_leastStart 7 (some .int) ∈ lw_tbl := mm_sub4 (List.mem_of_getElem? (i := 56) rfl)
theorem cwX6_findBest : Cond.code yX6_findBest cX6_findBest 3 none ∈ lw_tbl := mm_sub3 (List.mem_of_getElem? (i := 66) rfl)
theorem cwX6_measure : Cond.code yX6_measure cX6_measure 4 none ∈ lw_tbl := mm_sub3 (List.mem_of_getElem? (i := 71) rfl)
theorem cwX6_goOn : Cond.code yX6_goOn cX6_goOn 7 none ∈ lw_tbl := mm_sub3 (List.mem_of_getElem? (i := 77) rfl)
theorem cwX6_leastToCome : Cond.code yX6_leastToCome cX6_leastToCome 3 (some .int) ∈ lw_tbl := mm_sub3 (List.mem_of_getElem? (i := 81) rfl)
theorem cwX6_stepTo : Cond.code yX6_stepTo cX6_stepTo 3 (some .int) ∈ lw_tbl := mm_sub3 (List.mem_of_getElem? (i := 88) rfl)
theorem cwX6_countWays : Cond.code yX6_countWays cX6_countWays 3 none ∈ lw_tbl := mm_sub4 (List.mem_of_getElem? (i := 39) rfl)
theorem cwX6_tryOn : Cond.code yX6_tryOn cX6_tryOn 8 none ∈ lw_tbl := mm_sub4 (List.mem_of_getElem? (i := 48) rfl)
theorem cwX7_isShelf : Cond.code yX7_isShelf cX7_isShelf 2 (some .boolean) ∈ lw_tbl := mm_sub2 (List.mem_of_getElem? (i := 117) rfl)
theorem cwX7_refusal : Cond.code yX7_refusal cX7_refusal 3 (some .int) ∈ lw_tbl := mm_sub2 (List.mem_of_getElem? (i := 113) rfl)
theorem cwX7_refusalOfPlace : Cond.code yX7_refusalOfPlace cX7_refusalOfPlace 3 (some .int) ∈ lw_tbl := mm_sub2 (List.mem_of_getElem? (i := 129) rfl)
theorem cwX7_hold : Cond.code yX7_hold cX7_hold 3 none ∈ lw_tbl := mm_sub4 (List.mem_of_getElem? (i := 191) rfl)
theorem cwX7_layRow : Cond.code yX7_layRow cX7_layRow 5 none ∈ lw_tbl := mm_sub4 (List.mem_of_getElem? (i := 199) rfl)
theorem cwX7_read : Cond.code yX7_read cX7_read 3 (some .long) ∈ lw_tbl := mm_sub2 (List.mem_of_getElem? (i := 125) rfl)
theorem cwX7_write : Cond.code yX7_write cX7_write 5 none ∈ lw_tbl := mm_sub4 (List.mem_of_getElem? (i := 208) rfl)
theorem cwX7_narrowed : Cond.code yX7_narrowed cX7_narrowed 3 (some .long) ∈ lw_tbl := mm_sub4 (List.mem_of_getElem? (i := 211) rfl)
theorem cwX7_move : Cond.code yX7_move cX7_move 6 (some .int) ∈ lw_tbl := mm_sub4 (List.mem_of_getElem? (i := 223) rfl)
theorem cwX8_readFrom : Cond.code yX8_readFrom cX8_readFrom 6 none ∈ lw_tbl := mm_sub3 (List.mem_of_getElem? (i := 23) rfl)
theorem cwX8_takeWithFirst : Cond.code yX8_takeWithFirst cX8_takeWithFirst 5 none ∈ lw_tbl := mm_sub3 (List.mem_of_getElem? (i := 168) rfl)
theorem cwX8_clear : Cond.code yX8_clear cX8_clear 2 none ∈ lw_tbl := mm_sub3 (List.mem_of_getElem? (i := 27) rfl)
theorem cwX8_goTo : Cond.code yX8_goTo cX8_goTo 4 none ∈ lw_tbl := mm_sub3 (List.mem_of_getElem? (i := 33) rfl)
theorem cwX8_latest : Cond.code yX8_latest cX8_latest 1 (some .int) ∈ lw_tbl := mm_sub3 (List.mem_of_getElem? (i := 43) rfl)
theorem cwX8_together : Cond.code yX8_together cX8_together 3 (some .int) ∈ lw_tbl := mm_sub3 (List.mem_of_getElem? (i := 47) rfl)
theorem cwX8_behindStart : Cond.code yX8_behindStart cX8_behindStart 2 (some .int) ∈ lw_tbl := mm_sub3 (List.mem_of_getElem? (i := 55) rfl)
theorem cwX8_hearing : Cond.code yX8_hearing cX8_hearing 4 (some .int) ∈ lw_tbl := mm_sub3 (List.mem_of_getElem? (i := 51) rfl)
theorem cwX8_lets : Cond.code yX8_lets cX8_lets 7 (some .int) ∈ lw_tbl := mm_sub3 (List.mem_of_getElem? (i := 100) rfl)
theorem cwX8_admits : Cond.code yX8_admits cX8_admits 7 (some .boolean) ∈ lw_tbl := mm_sub3 (List.mem_of_getElem? (i := 126) rfl)
theorem cwX8_goesIn : Cond.code yX8_goesIn cX8_goesIn 5 (some .boolean) ∈ lw_tbl := mm_sub3 (List.mem_of_getElem? (i := 119) rfl)
theorem cwX8_known : Cond.code yX8_known cX8_known 2 (some .int) ∈ lw_tbl := mm_sub3 (List.mem_of_getElem? (i := 122) rfl)
theorem cwX8_patrolsIn : Cond.code yX8_patrolsIn cX8_patrolsIn 8 (some .int) ∈ lw_tbl := mm_sub3 (List.mem_of_getElem? (i := 114) rfl)
theorem cwX8_holdsNeeded : Cond.code yX8_holdsNeeded cX8_holdsNeeded 6 (some .int) ∈ lw_tbl := mm_sub3 (List.mem_of_getElem? (i := 135) rfl)
theorem cwX9_post : Cond.code yX9_post cX9_post 3 (some .int) ∈ lw_tbl := mm_sub2 (List.mem_of_getElem? (i := 80) rfl)
theorem cwX9_posts : Cond.code yX9_posts cX9_posts 7 (some .int) ∈ lw_tbl := mm_sub2 (List.mem_of_getElem? (i := 109) rfl)
theorem cwX9_mend : Cond.code yX9_mend cX9_mend 5 (some .int) ∈ lw_tbl := mm_sub2 (List.mem_of_getElem? (i := 133) rfl)
theorem cwX9_of : Cond.code yX9_of cX9_of 4 (some .int) ∈ lw_tbl := mm_sub2 (List.mem_of_getElem? (i := 151) rfl)
theorem cwX9_feed : Cond.code yX9_feed cX9_feed 2 (some .int) ∈ lw_tbl := mm_sub2 (List.mem_of_getElem? (i := 159) rfl)
theorem cwX9_law : Cond.code yX9_law cX9_law 1 (some .int) ∈ lw_tbl := mm_sub2 (List.mem_of_getElem? (i := 167) rfl)
theorem cwX9_mishears : Cond.code yX9_mishears cX9_mishears 2 (some .int) ∈ lw_tbl := mm_sub2 (List.mem_of_getElem? (i := 212) rfl)
theorem cwX9_hears : Cond.code yX9_hears cX9_hears 5 (some .int) ∈ lw_tbl := mm_sub3 (List.mem_of_getElem? (i := 15) rfl)
theorem cwX9_route : Cond.code yX9_route cX9_route 3 (some .int) ∈ lw_tbl := mm_sub3 (List.mem_of_getElem? (i := 62) rfl)
theorem cwX9_letsIn : Cond.code yX9_letsIn cX9_letsIn 4 (some .int) ∈ lw_tbl := mm_sub3 (List.mem_of_getElem? (i := 92) rfl)
theorem cwX9_patrol : Cond.code yX9_patrol cX9_patrol 4 (some .int) ∈ lw_tbl := mm_sub3 (List.mem_of_getElem? (i := 110) rfl)
theorem cwX9_holdsFor : Cond.code yX9_holdsFor cX9_holdsFor 6 (some .int) ∈ lw_tbl := mm_sub3 (List.mem_of_getElem? (i := 131) rfl)
theorem cwX9_stranger : Cond.code yX9_stranger cX9_stranger 8 (some .int) ∈ lw_tbl := mm_sub3 (List.mem_of_getElem? (i := 141) rfl)
theorem cwX9_safe : Cond.code yX9_safe cX9_safe 5 (some .int) ∈ lw_tbl := mm_sub3 (List.mem_of_getElem? (i := 150) rfl)
theorem cwX9_first : Cond.code yX9_first cX9_first 8 (some .int) ∈ lw_tbl := mm_sub3 (List.mem_of_getElem? (i := 164) rfl)
theorem cwX9_right : Cond.code yX9_right cX9_right 5 (some .long) ∈ lw_tbl := mm_sub3 (List.mem_of_getElem? (i := 172) rfl)
theorem cwX9_twice : Cond.code yX9_twice cX9_twice 5 (some .long) ∈ lw_tbl := mm_sub3 (List.mem_of_getElem? (i := 210) rfl)
theorem cwX9_word : Cond.code yX9_word cX9_word 9 (some .int) ∈ lw_tbl := mm_sub3 (List.mem_of_getElem? (i := 226) rfl)
theorem cwX9_odds : Cond.code yX9_odds cX9_odds 8 (some .long) ∈ lw_tbl := mm_sub3 (List.mem_of_getElem? (i := 231) rfl)
theorem cwX9_guess : Cond.code yX9_guess cX9_guess 7 (some .long) ∈ lw_tbl := mm_sub3 (List.mem_of_getElem? (i := 237) rfl)
theorem cwX9_judge : Cond.code yX9_judge cX9_judge 7 (some .int) ∈ lw_tbl := mm_sub4 (List.mem_of_getElem? (i := 2) rfl)
theorem cwX9_which : Cond.code yX9_which cX9_which 4 (some .int) ∈ lw_tbl := mm_sub4 (List.mem_of_getElem? (i := 20) rfl)
theorem cwX9_when : Cond.code yX9_when cX9_when 3 (some .int) ∈ lw_tbl := mm_sub4 (List.mem_of_getElem? (i := 52) rfl)
theorem cwX9_oddWord : Cond.code yX9_oddWord cX9_oddWord 4 (some .int) ∈ lw_tbl := mm_sub4 (List.mem_of_getElem? (i := 61) rfl)
theorem cwX9_drawn : Cond.code yX9_drawn cX9_drawn 9 (some .int) ∈ lw_tbl := mm_sub4 (List.mem_of_getElem? (i := 71) rfl)
theorem cwX9_change : Cond.code yX9_change cX9_change 2 (some .int) ∈ lw_tbl := mm_sub4 (List.mem_of_getElem? (i := 81) rfl)
theorem cwX9_tell : Cond.code yX9_tell cX9_tell 2 (some .int) ∈ lw_tbl := mm_sub4 (List.mem_of_getElem? (i := 89) rfl)
theorem cwX9_stay : Cond.code yX9_stay cX9_stay 2 (some .int) ∈ lw_tbl := mm_sub4 (List.mem_of_getElem? (i := 93) rfl)
theorem cwX9_ask : Cond.code yX9_ask cX9_ask 3 (some .int) ∈ lw_tbl := mm_sub4 (List.mem_of_getElem? (i := 97) rfl)
theorem cwX9_led : Cond.code yX9_led cX9_led 2 (some .int) ∈ lw_tbl := mm_sub4 (List.mem_of_getElem? (i := 105) rfl)
theorem cwX9_image : Cond.code yX9_image cX9_image 1 (some .int) ∈ lw_tbl := mm_sub4 (List.mem_of_getElem? (i := 109) rfl)
theorem cwX9_back : Cond.code yX9_back cX9_back 1 (some .int) ∈ lw_tbl := mm_sub4 (List.mem_of_getElem? (i := 118) rfl)
theorem cwX9_undo : Cond.code yX9_undo cX9_undo 1 (some .int) ∈ lw_tbl := mm_sub4 (List.mem_of_getElem? (i := 127) rfl)
theorem cwX9_redo : Cond.code yX9_redo cX9_redo 1 (some .int) ∈ lw_tbl := mm_sub4 (List.mem_of_getElem? (i := 135) rfl)
theorem cwX9_body : Cond.code yX9_body cX9_body 2 (some .int) ∈ lw_tbl := mm_sub4 (List.mem_of_getElem? (i := 143) rfl)
theorem cwX9_act : Cond.code yX9_act cX9_act 4 (some .int) ∈ lw_tbl := mm_sub4 (List.mem_of_getElem? (i := 151) rfl)
theorem cwX9_trace : Cond.code yX9_trace cX9_trace 2 (some .int) ∈ lw_tbl := mm_sub4 (List.mem_of_getElem? (i := 183) rfl)
theorem cwX9_keep : Cond.code yX9_keep cX9_keep 3 (some .int) ∈ lw_tbl := mm_sub4 (List.mem_of_getElem? (i := 187) rfl)
theorem cwX9_row : Cond.code yX9_row cX9_row 4 (some .int) ∈ lw_tbl := mm_sub4 (List.mem_of_getElem? (i := 195) rfl)
theorem cwX9_put : Cond.code yX9_put cX9_put 6 (some .int) ∈ lw_tbl := mm_sub4 (List.mem_of_getElem? (i := 203) rfl)
theorem cwX9_element : Cond.code yX9_element cX9_element 3 (some .long) ∈ lw_tbl := mm_sub4 (List.mem_of_getElem? (i := 215) rfl)
theorem cwX9_shift : Cond.code yX9_shift cX9_shift 6 (some .int) ∈ lw_tbl := mm_sub4 (List.mem_of_getElem? (i := 219) rfl)
theorem cwX9_taken : Cond.code yX9_taken cX9_taken 4 (some .int) ∈ lw_tbl := mm_sub4 (List.mem_of_getElem? (i := 228) rfl)
theorem cwX9_count : Cond.code yX9_count cX9_count 2 (some .int) ∈ lw_tbl := mm_sub4 (List.mem_of_getElem? (i := 236) rfl)
theorem cwX9_enlist : Cond.code yX9_enlist cX9_enlist 5 (some .int) ∈ lw_tbl := mm_sub2 (List.mem_of_getElem? (i := 92) rfl)
theorem cwX9_comesFromRow : Cond.code yX9_comesFromRow cX9_comesFromRow 9 (some .boolean) ∈ lw_tbl := mm_sub2 (List.mem_of_getElem? (i := 121) rfl)
theorem cwX9_isPlaceAndMinute : Cond.code yX9_isPlaceAndMinute cX9_isPlaceAndMinute 2 (some .boolean) ∈ lw_tbl := mm_sub3 (List.mem_of_getElem? (i := 96) rfl)
theorem cwX9_isPart : Cond.code yX9_isPart cX9_isPart 1 (some .boolean) ∈ lw_tbl := mm_sub3 (List.mem_of_getElem? (i := 175) rfl)
theorem cwX9_layOut : Cond.code yX9_layOut cX9_layOut 3 (some .int) ∈ lw_tbl := mm_sub3 (List.mem_of_getElem? (i := 19) rfl)
theorem cwX9_layOutBoth : Cond.code yX9_layOutBoth cX9_layOutBoth 4 (some .int) ∈ lw_tbl := mm_sub4 (List.mem_of_getElem? (i := 6) rfl)
theorem cwX9_overheard : Cond.code yX9_overheard cX9_overheard 2 (some .int) ∈ lw_tbl := mm_sub3 (List.mem_of_getElem? (i := 145) rfl)
theorem cwX9_safeFromNew : Cond.code yX9_safeFromNew cX9_safeFromNew 3 (some .int) ∈ lw_tbl := mm_sub3 (List.mem_of_getElem? (i := 154) rfl)
theorem cwX9_safeFromOld : Cond.code yX9_safeFromOld cX9_safeFromOld 4 (some .int) ∈ lw_tbl := mm_sub3 (List.mem_of_getElem? (i := 159) rfl)
theorem cwX9_isSo : Cond.code yX9_isSo cX9_isSo 6 (some .boolean) ∈ lw_tbl := mm_sub4 (List.mem_of_getElem? (i := 11) rfl)
theorem cwX9_partOf : Cond.code yX9_partOf cX9_partOf 7 (some .long) ∈ lw_tbl := mm_sub3 (List.mem_of_getElem? (i := 197) rfl)
theorem cwX9_commonDivisor : Cond.code yX9_commonDivisor cX9_commonDivisor 11 (some .long) ∈ lw_tbl := mm_sub3 (List.mem_of_getElem? (i := 200) rfl)
theorem cwX10_in : Cond.code yX10_in cX10_in 3 (some .boolean) ∈ lw_tbl := mm_sub5 (List.mem_of_getElem? (i := 182) rfl)
theorem cwX10_apart : Cond.code yX10_apart cX10_apart 2 (some .int) ∈ lw_tbl := mm_sub6 (List.mem_of_getElem? (i := 70) rfl)
theorem cwX10_isPost : Cond.code yX10_isPost cX10_isPost 2 (some .boolean) ∈ lw_tbl := mm_sub5 (List.mem_of_getElem? (i := 218) rfl)
theorem cwX10_isWord : Cond.code yX10_isWord cX10_isWord 1 (some .boolean) ∈ lw_tbl := mm_sub5 (List.mem_of_getElem? (i := 221) rfl)
theorem cwX10_addPost : Cond.code yX10_addPost cX10_addPost 4 (some .int) ∈ lw_tbl := mm_sub5 (List.mem_of_getElem? (i := 186) rfl)
theorem cwX10_post : Cond.code yX10_post cX10_post 3 (some .int) ∈ lw_tbl := mm_sub5 (List.mem_of_getElem? (i := 179) rfl)
theorem cwX10_posts : Cond.code yX10_posts cX10_posts 8 (some .int) ∈ lw_tbl := mm_sub5 (List.mem_of_getElem? (i := 190) rfl)
theorem cwX10_valueAt : Cond.code yX10_valueAt cX10_valueAt 3 (some .int) ∈ lw_tbl := mm_sub5 (List.mem_of_getElem? (i := 232) rfl)
theorem cwX10_lays : Cond.code yX10_lays cX10_lays 4 none ∈ lw_tbl := mm_sub5 (List.mem_of_getElem? (i := 202) rfl)
theorem cwX10_changes : Cond.code yX10_changes cX10_changes 6 (some .int) ∈ lw_tbl := mm_sub5 (List.mem_of_getElem? (i := 228) rfl)
theorem cwX10_undo : Cond.code yX10_undo cX10_undo 1 (some .int) ∈ lw_tbl := mm_sub5 (List.mem_of_getElem? (i := 198) rfl)
theorem cwX10_redo : Cond.code yX10_redo cX10_redo 1 (some .int) ∈ lw_tbl := mm_sub5 (List.mem_of_getElem? (i := 206) rfl)
theorem cwX10_isOne : Cond.code yX10_isOne cX10_isOne 3 (some .boolean) ∈ lw_tbl := mm_sub5 (List.mem_of_getElem? (i := 214) rfl)
theorem cwX10_mayBe : Cond.code yX10_mayBe cX10_mayBe 2 (some .boolean) ∈ lw_tbl := mm_sub5 (List.mem_of_getElem? (i := 224) rfl)
theorem cwX10_mend : Cond.code yX10_mend cX10_mend 4 (some .int) ∈ lw_tbl := mm_sub5 (List.mem_of_getElem? (i := 210) rfl)
theorem cwX10_of : Cond.code yX10_of cX10_of 3 (some .int) ∈ lw_tbl := mm_sub5 (List.mem_of_getElem? (i := 236) rfl)
theorem cwX10_feed : Cond.code yX10_feed cX10_feed 2 (some .int) ∈ lw_tbl := mm_sub6 (List.mem_of_getElem? (i := 0) rfl)
theorem cwX10_look : Cond.code yX10_look cX10_look 1 (some .int) ∈ lw_tbl := mm_sub6 (List.mem_of_getElem? (i := 40) rfl)
theorem cwX10_faulty : Cond.code yX10_faulty cX10_faulty 1 none ∈ lw_tbl := mm_sub6 (List.mem_of_getElem? (i := 55) rfl)
theorem cwX10_addStep : Cond.code yX10_addStep cX10_addStep 3 none ∈ lw_tbl := mm_sub6 (List.mem_of_getElem? (i := 47) rfl)
theorem cwX10_nameOf : Cond.code yX10_nameOf cX10_nameOf 1 (some .int) ∈ lw_tbl := mm_sub6 (List.mem_of_getElem? (i := 43) rfl)
theorem cwX10_opens : Cond.code yX10_opens cX10_opens 1 (some .boolean) ∈ lw_tbl := mm_sub6 (List.mem_of_getElem? (i := 51) rfl)
theorem cwX10_figure : Cond.code yX10_figure cX10_figure 3 none ∈ lw_tbl := mm_sub6 (List.mem_of_getElem? (i := 59) rfl)
theorem cwX10_operand : Cond.code yX10_operand cX10_operand 2 none ∈ lw_tbl := mm_sub6 (List.mem_of_getElem? (i := 36) rfl)
theorem cwX10_product : Cond.code yX10_product cX10_product 2 none ∈ lw_tbl := mm_sub6 (List.mem_of_getElem? (i := 32) rfl)
theorem cwX10_sum : Cond.code yX10_sum cX10_sum 2 none ∈ lw_tbl := mm_sub6 (List.mem_of_getElem? (i := 28) rfl)
theorem cwX10_compared : Cond.code yX10_compared cX10_compared 2 none ∈ lw_tbl := mm_sub6 (List.mem_of_getElem? (i := 24) rfl)
theorem cwX10_both : Cond.code yX10_both cX10_both 1 none ∈ lw_tbl := mm_sub6 (List.mem_of_getElem? (i := 20) rfl)
theorem cwX10_either : Cond.code yX10_either cX10_either 1 none ∈ lw_tbl := mm_sub6 (List.mem_of_getElem? (i := 16) rfl)
theorem cwX10_line : Cond.code yX10_line cX10_line 2 none ∈ lw_tbl := mm_sub6 (List.mem_of_getElem? (i := 12) rfl)
theorem cwX10_readText : Cond.code yX10_readText cX10_readText 3 (some .int) ∈ lw_tbl := mm_sub6 (List.mem_of_getElem? (i := 8) rfl)
theorem cwX10_twoOf : Cond.code yX10_twoOf cX10_twoOf 3 (some .int) ∈ lw_tbl := mm_sub6 (List.mem_of_getElem? (i := 81) rfl)
theorem cwX10_worked : Cond.code yX10_worked cX10_worked 7 (some .int) ∈ lw_tbl := mm_sub6 (List.mem_of_getElem? (i := 78) rfl)
theorem cwX10_gives : Cond.code yX10_gives cX10_gives 4 (some .int) ∈ lw_tbl := mm_sub6 (List.mem_of_getElem? (i := 74) rfl)
theorem cwX10_law : Cond.code yX10_law cX10_law 2 (some .int) ∈ lw_tbl := mm_sub6 (List.mem_of_getElem? (i := 4) rfl)
theorem cwX10_mishear : Cond.code yX10_mishear cX10_mishear 4 (some .int) ∈ lw_tbl := mm_sub6 (List.mem_of_getElem? (i := 67) rfl)
theorem cwX10_mishears : Cond.code yX10_mishears cX10_mishears 2 (some .int) ∈ lw_tbl := mm_sub6 (List.mem_of_getElem? (i := 63) rfl)
theorem cwX10_placeOf : Cond.code yX10_placeOf cX10_placeOf 3 (some .int) ∈ lw_tbl := mm_sub6 (List.mem_of_getElem? (i := 101) rfl)
theorem cwX10_rowFault : Cond.code yX10_rowFault cX10_rowFault 3 (some .int) ∈ lw_tbl := mm_sub6 (List.mem_of_getElem? (i := 89) rfl)
theorem cwX10_at : Cond.code yX10_at cX10_at 3 (some .int) ∈ lw_tbl := mm_sub6 (List.mem_of_getElem? (i := 97) rfl)
theorem cwX10_distance : Cond.code yX10_distance cX10_distance 3 (some .int) ∈ lw_tbl := mm_sub6 (List.mem_of_getElem? (i := 109) rfl)
theorem cwX10_goRoute : Cond.code yX10_goRoute cX10_goRoute 4 none ∈ lw_tbl := mm_sub6 (List.mem_of_getElem? (i := 105) rfl)
theorem cwX10_layRoute : Cond.code yX10_layRoute cX10_layRoute 4 none ∈ lw_tbl := mm_sub6 (List.mem_of_getElem? (i := 93) rfl)
theorem cwX10_layOr : Cond.code yX10_layOr cX10_layOr 3 (some .int) ∈ lw_tbl := mm_sub6 (List.mem_of_getElem? (i := 168) rfl)
theorem cwX10_latest : Cond.code yX10_latest cX10_latest 3 (some .int) ∈ lw_tbl := mm_sub6 (List.mem_of_getElem? (i := 117) rfl)
theorem cwX10_together : Cond.code yX10_together cX10_together 3 (some .int) ∈ lw_tbl := mm_sub6 (List.mem_of_getElem? (i := 113) rfl)
theorem cwX10_hears : Cond.code yX10_hears cX10_hears 3 (some .int) ∈ lw_tbl := mm_sub6 (List.mem_of_getElem? (i := 85) rfl)
theorem cwX10_metRoute : Cond.code yX10_metRoute cX10_metRoute 4 none ∈ lw_tbl := mm_sub6 (List.mem_of_getElem? (i := 133) rfl)
theorem cwX10_keepRoute : Cond.code yX10_keepRoute cX10_keepRoute 2 none ∈ lw_tbl := mm_sub6 (List.mem_of_getElem? (i := 157) rfl)
theorem cwX10_goRoutes : Cond.code yX10_goRoutes cX10_goRoutes 5 none ∈ lw_tbl := mm_sub6 (List.mem_of_getElem? (i := 129) rfl)
theorem cwX10_findRoutes : Cond.code yX10_findRoutes cX10_findRoutes 3 none ∈ lw_tbl := mm_sub6 (List.mem_of_getElem? (i := 125) rfl)
theorem cwX10_route : Cond.code yX10_route cX10_route 3 (some .int) ∈ lw_tbl := mm_sub6 (List.mem_of_getElem? (i := 121) rfl)
theorem cwX10_isOldIn : Cond.code yX10_isOldIn cX10_isOldIn 3 (some .boolean) ∈ lw_tbl := mm_sub6 (List.mem_of_getElem? (i := 149) rfl)
theorem cwX10_isNewIn : Cond.code yX10_isNewIn cX10_isNewIn 3 (some .boolean) ∈ lw_tbl := mm_sub6 (List.mem_of_getElem? (i := 153) rfl)
theorem cwX10_bitsIn : Cond.code yX10_bitsIn cX10_bitsIn 4 (some .int) ∈ lw_tbl := mm_sub6 (List.mem_of_getElem? (i := 145) rfl)
theorem cwX10_arePost : Cond.code yX10_arePost cX10_arePost 2 (some .boolean) ∈ lw_tbl := mm_sub6 (List.mem_of_getElem? (i := 164) rfl)
theorem cwX10_letsIn : Cond.code yX10_letsIn cX10_letsIn 4 (some .int) ∈ lw_tbl := mm_sub6 (List.mem_of_getElem? (i := 161) rfl)
theorem cwX10_isLetIn : Cond.code yX10_isLetIn cX10_isLetIn 5 (some .boolean) ∈ lw_tbl := mm_sub6 (List.mem_of_getElem? (i := 141) rfl)
theorem cwX10_knows : Cond.code yX10_knows cX10_knows 2 (some .int) ∈ lw_tbl := mm_sub6 (List.mem_of_getElem? (i := 184) rfl)
theorem cwX10_isHome : Cond.code yX10_isHome cX10_isHome 2 (some .boolean) ∈ lw_tbl := mm_sub6 (List.mem_of_getElem? (i := 180) rfl)
theorem cwX10_homeMany : Cond.code yX10_homeMany cX10_homeMany 3 (some .int) ∈ lw_tbl := mm_sub6 (List.mem_of_getElem? (i := 176) rfl)
theorem cwX10_patrol : Cond.code yX10_patrol cX10_patrol 4 (some .int) ∈ lw_tbl := mm_sub6 (List.mem_of_getElem? (i := 172) rfl)
theorem cwX10_holdsFor : Cond.code yX10_holdsFor cX10_holdsFor 6 (some .int) ∈ lw_tbl := mm_sub6 (List.mem_of_getElem? (i := 188) rfl)
theorem cwX10_overheard : Cond.code yX10_overheard cX10_overheard 2 (some .int) ∈ lw_tbl := mm_sub6 (List.mem_of_getElem? (i := 196) rfl)
theorem cwX10_stranger : Cond.code yX10_stranger cX10_stranger 7 (some .int) ∈ lw_tbl := mm_sub6 (List.mem_of_getElem? (i := 192) rfl)
theorem cwX10_isSafe : Cond.code yX10_isSafe cX10_isSafe 5 (some .boolean) ∈ lw_tbl := mm_sub6 (List.mem_of_getElem? (i := 204) rfl)
theorem cwX10_safe : Cond.code yX10_safe cX10_safe 8 (some .int) ∈ lw_tbl := mm_sub6 (List.mem_of_getElem? (i := 200) rfl)
theorem cwX10_putFirst : Cond.code yX10_putFirst cX10_putFirst 4 none ∈ lw_tbl := mm_sub6 (List.mem_of_getElem? (i := 212) rfl)
theorem cwX10_first : Cond.code yX10_first cX10_first 9 (some .int) ∈ lw_tbl := mm_sub6 (List.mem_of_getElem? (i := 208) rfl)
theorem cwX10_asPart : Cond.code yX10_asPart cX10_asPart 11 (some .long) ∈ lw_tbl := mm_sub6 (List.mem_of_getElem? (i := 236) rfl)
theorem cwX10_isPart : Cond.code yX10_isPart cX10_isPart 1 (some .boolean) ∈ lw_tbl := mm_sub6 (List.mem_of_getElem? (i := 219) rfl)
theorem cwX10_rightOf : Cond.code yX10_rightOf cX10_rightOf 5 (some .long) ∈ lw_tbl := mm_sub6 (List.mem_of_getElem? (i := 228) rfl)
theorem cwX10_rightAll : Cond.code yX10_rightAll cX10_rightAll 5 (some .long) ∈ lw_tbl := mm_sub6 (List.mem_of_getElem? (i := 224) rfl)
theorem cwX10_ofAll : Cond.code yX10_ofAll cX10_ofAll 4 (some .long) ∈ lw_tbl := mm_sub6 (List.mem_of_getElem? (i := 232) rfl)
theorem cwX10_right : Cond.code yX10_right cX10_right 8 (some .long) ∈ lw_tbl := mm_sub6 (List.mem_of_getElem? (i := 216) rfl)
theorem cwX10_twice : Cond.code yX10_twice cX10_twice 9 (some .long) ∈ lw_tbl := mm_sub7 (List.mem_of_getElem? (i := 0) rfl)
theorem cwX10_word : Cond.code yX10_word cX10_word 10 (some .int) ∈ lw_tbl := mm_sub7 (List.mem_of_getElem? (i := 4) rfl)
theorem cwX10_isHomeBy : Cond.code yX10_isHomeBy cX10_isHomeBy 4 (some .boolean) ∈ lw_tbl := mm_sub7 (List.mem_of_getElem? (i := 12) rfl)
theorem cwX10_odds : Cond.code yX10_odds cX10_odds 7 (some .long) ∈ lw_tbl := mm_sub7 (List.mem_of_getElem? (i := 8) rfl)
theorem cwX10_choose : Cond.code yX10_choose cX10_choose 5 (some .long) ∈ lw_tbl := mm_sub7 (List.mem_of_getElem? (i := 20) rfl)
theorem cwX10_guess : Cond.code yX10_guess cX10_guess 7 (some .long) ∈ lw_tbl := mm_sub7 (List.mem_of_getElem? (i := 17) rfl)
theorem cwX10_wrongSaid : Cond.code yX10_wrongSaid cX10_wrongSaid 5 (some .int) ∈ lw_tbl := mm_sub6 (List.mem_of_getElem? (i := 137) rfl)
theorem cwX10_areShelves : Cond.code yX10_areShelves cX10_areShelves 1 (some .boolean) ∈ lw_tbl := mm_sub7 (List.mem_of_getElem? (i := 27) rfl)
theorem cwX10_layBoth : Cond.code yX10_layBoth cX10_layBoth 2 (some .int) ∈ lw_tbl := mm_sub7 (List.mem_of_getElem? (i := 31) rfl)
theorem cwX10_judge : Cond.code yX10_judge cX10_judge 3 (some .int) ∈ lw_tbl := mm_sub7 (List.mem_of_getElem? (i := 24) rfl)
theorem cwX10_which : Cond.code yX10_which cX10_which 5 (some .int) ∈ lw_tbl := mm_sub7 (List.mem_of_getElem? (i := 35) rfl)
theorem cwX10_when : Cond.code yX10_when cX10_when 6 (some .int) ∈ lw_tbl := mm_sub7 (List.mem_of_getElem? (i := 39) rfl)
theorem cwX10_oddWord : Cond.code yX10_oddWord cX10_oddWord 6 (some .int) ∈ lw_tbl := mm_sub7 (List.mem_of_getElem? (i := 43) rfl)
theorem cwX10_drawn : Cond.code yX10_drawn cX10_drawn 12 (some .int) ∈ lw_tbl := mm_sub7 (List.mem_of_getElem? (i := 47) rfl)
theorem cwX10_getsWord : Cond.code yX10_getsWord cX10_getsWord 4 (some .int) ∈ lw_tbl := mm_sub7 (List.mem_of_getElem? (i := 56) rfl)
theorem cwX10_change : Cond.code yX10_change cX10_change 2 (some .int) ∈ lw_tbl := mm_sub7 (List.mem_of_getElem? (i := 52) rfl)
theorem cwX10_tell : Cond.code yX10_tell cX10_tell 2 (some .int) ∈ lw_tbl := mm_sub7 (List.mem_of_getElem? (i := 60) rfl)
theorem cwX10_stay : Cond.code yX10_stay cX10_stay 2 (some .int) ∈ lw_tbl := mm_sub7 (List.mem_of_getElem? (i := 64) rfl)
theorem cwX10_ask : Cond.code yX10_ask cX10_ask 4 (some .int) ∈ lw_tbl := mm_sub7 (List.mem_of_getElem? (i := 68) rfl)
theorem cwX10_led : Cond.code yX10_led cX10_led 2 (some .int) ∈ lw_tbl := mm_sub7 (List.mem_of_getElem? (i := 72) rfl)
theorem cwX10_image : Cond.code yX10_image cX10_image 2 (some .int) ∈ lw_tbl := mm_sub7 (List.mem_of_getElem? (i := 76) rfl)
theorem cwX10_back : Cond.code yX10_back cX10_back 3 (some .int) ∈ lw_tbl := mm_sub7 (List.mem_of_getElem? (i := 80) rfl)
theorem cwX10_isBody : Cond.code yX10_isBody cX10_isBody 2 (some .boolean) ∈ lw_tbl := mm_sub7 (List.mem_of_getElem? (i := 96) rfl)
theorem cwX10_ran : Cond.code yX10_ran cX10_ran 2 none ∈ lw_tbl := mm_sub7 (List.mem_of_getElem? (i := 107) rfl)
theorem cwX10_trace : Cond.code yX10_trace cX10_trace 2 (some .int) ∈ lw_tbl := mm_sub7 (List.mem_of_getElem? (i := 84) rfl)
theorem cwX10_body : Cond.code yX10_body cX10_body 2 (some .int) ∈ lw_tbl := mm_sub7 (List.mem_of_getElem? (i := 88) rfl)
theorem cwX10_isUnder : Cond.code yX10_isUnder cX10_isUnder 2 (some .boolean) ∈ lw_tbl := mm_sub7 (List.mem_of_getElem? (i := 103) rfl)
theorem cwX10_plainSays : Cond.code yX10_plainSays cX10_plainSays 3 (some .int) ∈ lw_tbl := mm_sub7 (List.mem_of_getElem? (i := 111) rfl)
theorem cwX10_strangerSays : Cond.code yX10_strangerSays cX10_strangerSays 3 (some .int) ∈ lw_tbl := mm_sub7 (List.mem_of_getElem? (i := 115) rfl)
theorem cwX10_saying : Cond.code yX10_saying cX10_saying 3 (some .int) ∈ lw_tbl := mm_sub7 (List.mem_of_getElem? (i := 100) rfl)
theorem cwX10_plainHears : Cond.code yX10_plainHears cX10_plainHears 3 (some .int) ∈ lw_tbl := mm_sub7 (List.mem_of_getElem? (i := 127) rfl)
theorem cwX10_latherHears : Cond.code yX10_latherHears cX10_latherHears 3 (some .int) ∈ lw_tbl := mm_sub7 (List.mem_of_getElem? (i := 123) rfl)
theorem cwX10_hearing : Cond.code yX10_hearing cX10_hearing 4 (some .int) ∈ lw_tbl := mm_sub7 (List.mem_of_getElem? (i := 119) rfl)
theorem cwX10_plainHolds : Cond.code yX10_plainHolds cX10_plainHolds 3 (some .int) ∈ lw_tbl := mm_sub7 (List.mem_of_getElem? (i := 139) rfl)
theorem cwX10_runnerHolds : Cond.code yX10_runnerHolds cX10_runnerHolds 3 (some .int) ∈ lw_tbl := mm_sub7 (List.mem_of_getElem? (i := 135) rfl)
theorem cwX10_holding : Cond.code yX10_holding cX10_holding 4 (some .int) ∈ lw_tbl := mm_sub7 (List.mem_of_getElem? (i := 131) rfl)
theorem cwX10_plainTells : Cond.code yX10_plainTells cX10_plainTells 4 (some .int) ∈ lw_tbl := mm_sub7 (List.mem_of_getElem? (i := 147) rfl)
theorem cwX10_telling : Cond.code yX10_telling cX10_telling 3 (some .int) ∈ lw_tbl := mm_sub7 (List.mem_of_getElem? (i := 143) rfl)
theorem cwX10_act : Cond.code yX10_act cX10_act 4 (some .int) ∈ lw_tbl := mm_sub7 (List.mem_of_getElem? (i := 92) rfl)
theorem cwX10_count : Cond.code yX10_count cX10_count 2 (some .int) ∈ lw_tbl := mm_sub7 (List.mem_of_getElem? (i := 151) rfl)
theorem cwX10_isShelf : Cond.code yX10_isShelf cX10_isShelf 1 (some .boolean) ∈ lw_tbl := mm_sub5 (List.mem_of_getElem? (i := 193) rfl)
theorem cwX10_keep : Cond.code yX10_keep cX10_keep 3 (some .int) ∈ lw_tbl := mm_sub7 (List.mem_of_getElem? (i := 155) rfl)
theorem cwX10_row : Cond.code yX10_row cX10_row 5 (some .int) ∈ lw_tbl := mm_sub7 (List.mem_of_getElem? (i := 159) rfl)
theorem cwX10_whyNoPlace : Cond.code yX10_whyNoPlace cX10_whyNoPlace 3 (some .int) ∈ lw_tbl := mm_sub7 (List.mem_of_getElem? (i := 167) rfl)
theorem cwX10_put : Cond.code yX10_put cX10_put 7 (some .int) ∈ lw_tbl := mm_sub7 (List.mem_of_getElem? (i := 163) rfl)
theorem cwX10_element : Cond.code yX10_element cX10_element 3 (some .long) ∈ lw_tbl := mm_sub7 (List.mem_of_getElem? (i := 171) rfl)
theorem cwX10_shift : Cond.code yX10_shift cX10_shift 7 (some .int) ∈ lw_tbl := mm_sub7 (List.mem_of_getElem? (i := 175) rfl)
theorem cwX10_taken : Cond.code yX10_taken cX10_taken 3 (some .int) ∈ lw_tbl := mm_sub7 (List.mem_of_getElem? (i := 179) rfl)
theorem cwJ6_bitCount_0f7a4 : Cond.code yJ6_bitCount_0f7a4 cJ6_bitCount_0f7a4 1 (some .int) ∈ lw_tbl := mm_sub3 (List.mem_of_getElem? (i := 218) rfl)
/-- of each method: 0 virtual, 1 static; how many arguments; where its words stand -/
def mm_kwT : List (Nat × Nat × Nat × Nat × Nat) := [(0, 1, 964, 965, 109), (0, 1, 976, 977, 109), (1, 2, 1050, 0, 109), (0, 3, 972, 973, 109), (0, 3, 981, 29, 109), (0, 4, 985, 30, 109), (0, 3, 993, 31, 109), (0, 4, 997, 32, 109), (0, 4, 757, 758, 105), (0, 2, 766, 767, 105), (0, 2, 762, 763, 105), (0, 1, 770, 771, 105),
  (0, 2, 781, 782, 105), (0, 2, 791, 792, 105), (0, 1, 892, 893, 105), (0, 2, 441, 442, 108), (0, 2, 902, 903, 108), (0, 3, 918, 919, 108), (0, 1, 930, 931, 108), (0, 1, 939, 940, 108), (0, 1, 500, 501, 102), (0, 0, 508, 509, 102), (0, 0, 513, 3, 102), (0, 2, 517, 4, 102),
  (0, 1, 521, 5, 102), (0, 0, 532, 7, 102), (0, 0, 525, 6, 102), (0, 1, 543, 9, 102), (0, 1, 536, 8, 102), (1, 1, 528, 0, 102), (1, 1, 539, 0, 102), (1, 2, 546, 0, 102), (0, 4, 553, 554, 102), (0, 4, 562, 10, 102), (1, 5, 573, 0, 102), (0, 1, 580, 13, 102),
  (1, 3, 583, 0, 102), (0, 1, 570, 12, 102), (0, 0, 566, 11, 102), (0, 2, 474, 475, 101), (0, 2, 421, 422, 101), (0, 2, 557, 558, 101), (0, 1, 437, 438, 101), (0, 1, 492, 493, 101), (0, 0, 682, 683, 101), (0, 2, 614, 615, 101), (0, 3, 433, 434, 101), (0, 2, 480, 481, 101),
  (0, 0, 485, 2, 101), (0, 0, 948, 949, 101), (0, 0, 956, 957, 101), (0, 4, 841, 842, 106), (1, 4, 832, 0, 106), (0, 5, 850, 27, 106), (0, 2, 861, 862, 106), (0, 2, 882, 883, 106), (0, 2, 873, 874, 106), (0, 2, 643, 644, 107), (0, 1, 649, 17, 107), (0, 4, 655, 18, 107),
  (0, 2, 659, 19, 107), (0, 2, 666, 20, 107), (0, 2, 856, 857, 107), (0, 5, 866, 28, 107), (0, 1, 454, 455, 103), (0, 2, 450, 451, 103), (0, 2, 466, 467, 103), (0, 2, 1008, 1009, 103), (0, 3, 1016, 1017, 103), (0, 2, 462, 463, 103), (0, 3, 1025, 1026, 103), (1, 2, 1029, 0, 103),
  (0, 5, 1040, 1041, 103), (0, 3, 600, 601, 104), (0, 3, 745, 746, 104), (0, 0, 605, 15, 104), (0, 2, 611, 16, 104), (0, 0, 620, 621, 104), (0, 0, 624, 625, 104), (0, 1, 632, 633, 104), (0, 2, 628, 629, 104), (0, 3, 677, 678, 104), (0, 5, 703, 704, 104), (0, 3, 696, 697, 104),
  (1, 2, 700, 0, 104), (0, 2, 691, 692, 104), (0, 2, 712, 713, 104), (0, 2, 417, 418, 100), (0, 3, 446, 447, 100), (0, 3, 470, 471, 100), (0, 2, 488, 489, 100), (0, 1, 496, 497, 100), (0, 0, 504, 505, 100), (0, 1, 549, 550, 100), (0, 2, 592, 593, 100), (0, 2, 639, 640, 100),
  (0, 2, 669, 670, 100), (0, 2, 687, 688, 100), (0, 1, 708, 709, 100), (0, 3, 718, 719, 100), (0, 3, 727, 728, 100), (0, 2, 741, 742, 100), (0, 4, 749, 750, 100), (0, 3, 787, 788, 100), (0, 1, 803, 804, 100), (0, 3, 808, 809, 100), (0, 4, 814, 815, 100), (0, 1, 819, 820, 100),
  (0, 2, 837, 838, 100), (0, 1, 869, 870, 100), (0, 1, 878, 879, 100), (0, 4, 888, 889, 100), (0, 1, 898, 899, 100), (0, 1, 906, 907, 100), (0, 1, 910, 911, 100), (0, 2, 914, 915, 100), (0, 1, 922, 923, 100), (0, 0, 926, 927, 100), (0, 0, 935, 936, 100), (0, 0, 944, 945, 100),
  (0, 0, 952, 953, 100), (0, 1, 960, 961, 100), (0, 3, 968, 969, 100), (0, 1, 1000, 1001, 100), (0, 2, 1004, 1005, 100), (0, 3, 1012, 1013, 100), (0, 3, 1020, 1021, 100), (0, 2, 1032, 1033, 100), (0, 5, 1036, 1037, 100), (0, 2, 1045, 1046, 100), (0, 1, 1053, 1054, 100), (0, 3, 430, 0, 100),
  (0, 3, 459, 1, 100), (0, 1, 674, 21, 100), (1, 1, 753, 0, 100), (0, 1, 597, 14, 100), (0, 1, 824, 25, 100), (0, 1, 723, 22, 100), (0, 1, 732, 23, 100), (0, 1, 737, 24, 100), (0, 2, 829, 26, 100), (1, 3, 775, 0, 100), (1, 2, 778, 0, 100), (1, 3, 1240, 0, 110),
  (1, 2, 1368, 0, 110), (0, 1, 1276, 36, 110), (1, 1, 1279, 0, 110), (0, 3, 1244, 33, 110), (0, 2, 1236, 1237, 110), (0, 3, 1247, 1248, 110), (0, 2, 1290, 38, 110), (0, 3, 1260, 34, 110), (0, 3, 1286, 37, 110), (0, 0, 1255, 1256, 110), (0, 0, 1263, 1264, 110), (0, 2, 1272, 35, 110),
  (1, 2, 1282, 0, 110), (0, 3, 1267, 1268, 110), (0, 2, 1293, 1294, 110), (0, 1, 1297, 1298, 110), (0, 0, 1338, 47, 110), (0, 0, 1353, 50, 110), (0, 2, 1345, 48, 110), (1, 1, 1341, 0, 110), (0, 0, 1349, 49, 110), (0, 0, 1357, 51, 110), (0, 0, 1334, 46, 110), (0, 0, 1330, 45, 110),
  (0, 0, 1326, 44, 110), (0, 0, 1322, 43, 110), (0, 0, 1318, 42, 110), (0, 0, 1314, 41, 110), (0, 0, 1310, 40, 110), (0, 1, 1306, 39, 110), (1, 3, 1379, 0, 110), (0, 3, 1376, 54, 110), (0, 1, 1372, 53, 110), (0, 0, 1301, 1302, 110), (0, 2, 1365, 52, 110), (0, 1, 1360, 1361, 110),
  (0, 1, 1399, 58, 110), (0, 2, 1387, 55, 110), (0, 2, 1395, 57, 110), (0, 2, 1407, 60, 110), (0, 0, 1403, 59, 110), (0, 1, 1391, 56, 110), (0, 1, 1466, 72, 110), (0, 0, 1415, 62, 110), (0, 0, 1411, 61, 110), (0, 2, 1382, 1383, 110), (0, 2, 1431, 65, 110), (0, 0, 1455, 71, 110),
  (0, 3, 1427, 64, 110), (0, 2, 1423, 63, 110), (0, 2, 1418, 1419, 110), (0, 2, 1447, 69, 110), (0, 2, 1451, 70, 110), (0, 2, 1443, 68, 110), (1, 2, 1462, 0, 110), (0, 2, 1458, 1459, 110), (0, 3, 1439, 67, 110), (0, 1, 1482, 75, 110), (0, 1, 1478, 74, 110), (0, 0, 1474, 73, 110),
  (0, 2, 1469, 1470, 110), (0, 1, 1485, 1486, 110), (0, 1, 1494, 76, 110), (0, 3, 1489, 1490, 110), (0, 2, 1502, 77, 110), (0, 3, 1497, 1498, 110), (0, 1, 1510, 78, 110), (0, 2, 1505, 1506, 110), (1, 3, 1534, 0, 110), (1, 1, 1517, 0, 110), (0, 2, 1526, 80, 110), (0, 1, 1522, 79, 110),
  (0, 0, 1530, 81, 110), (0, 4, 1513, 1514, 110), (0, 3, 1537, 1538, 110), (0, 1, 1541, 1542, 110), (0, 2, 1550, 82, 110), (0, 3, 1545, 1546, 110), (1, 2, 1558, 0, 110), (0, 4, 1554, 1555, 110), (0, 1, 1435, 66, 110), (1, 1, 1565, 0, 110), (0, 1, 1569, 83, 110), (0, 1, 1561, 1562, 110),
  (0, 2, 1572, 1573, 110), (0, 1, 1576, 1577, 110), (0, 1, 1580, 1581, 110), (0, 4, 1584, 1585, 110), (0, 2, 1594, 84, 110), (0, 1, 1589, 1590, 110), (0, 1, 1597, 1598, 110), (0, 1, 1601, 1602, 110), (0, 2, 1605, 1606, 110), (0, 1, 1609, 1610, 110), (0, 0, 1613, 1614, 110), (0, 0, 1617, 1618, 110),
  (0, 1, 1634, 85, 110), (0, 1, 1645, 87, 110), (0, 1, 1621, 1622, 110), (0, 1, 1625, 1626, 110), (1, 2, 1641, 0, 110), (0, 2, 1649, 88, 110), (0, 2, 1653, 89, 110), (0, 2, 1638, 86, 110), (0, 2, 1665, 92, 110), (0, 2, 1661, 91, 110), (0, 2, 1657, 90, 110), (0, 2, 1677, 95, 110),
  (0, 2, 1673, 94, 110), (0, 2, 1669, 93, 110), (0, 2, 1685, 97, 110), (0, 2, 1681, 96, 110), (0, 3, 1629, 1630, 110), (0, 1, 1688, 1689, 110), (1, 1, 1251, 0, 110), (0, 2, 1692, 1693, 110), (0, 3, 1696, 1697, 110), (0, 2, 1705, 98, 110), (0, 3, 1700, 1701, 110), (0, 2, 1708, 1709, 110),
  (0, 5, 1712, 1713, 110), (0, 2, 1716, 1717, 110), (1, 1, 796, 0, 113)]
def mm_kw1 (K : mm_K) (e : Nat × Nat × Nat × Nat × Nat) : Bool :=
  decide ((mm_nm K).cls ≠ "java/lang/invoke/MethodHandle") && decide ((mm_nm K).cls ≠ "java/lang/invoke/VarHandle") && decide ((parseMethodDescriptor (mm_nm K).desc).map (fun d => d.parameters.length) = some e.2.1) && plainName (mm_nm K).cls && decide (K.2.2.1 < 4) && decide ((mm_nm K).cls = mm_own K.2.2.2.1) && mm_has e.2.2.2.2 (Cond.initialized (mm_nm K).cls)
    && (if e.1 = 0 then mm_has e.2.2.1 (Cond.instanceMethod (mm_nm K)) && mm_has e.2.2.2.1 (Cond.selects (mm_nm K).cls (mm_nm K) (mm_nm K)) else mm_has e.2.2.1 (Cond.static (mm_nm K)))
def mm_kw (k : Nat) : Bool := mm_kw1 (mm_k k) (mm_kwT.getD k (9, 0, 0, 0, 0))
theorem mm_kw_0 : ((List.range 30).drop 0).all mm_kw = true := by decide +kernel
theorem mm_kw_1 : ((List.range 60).drop 30).all mm_kw = true := by decide +kernel
theorem mm_kw_2 : ((List.range 90).drop 60).all mm_kw = true := by decide +kernel
theorem mm_kw_3 : ((List.range 120).drop 90).all mm_kw = true := by decide +kernel
theorem mm_kw_4 : ((List.range 150).drop 120).all mm_kw = true := by decide +kernel
theorem mm_kw_5 : ((List.range 180).drop 150).all mm_kw = true := by decide +kernel
theorem mm_kw_6 : ((List.range 210).drop 180).all mm_kw = true := by decide +kernel
theorem mm_kw_7 : ((List.range 240).drop 210).all mm_kw = true := by decide +kernel
theorem mm_kw_8 : ((List.range 267).drop 240).all mm_kw = true := by decide +kernel
theorem mm_kw_ok {k : Nat} (h : k < 267) : mm_kw k = true := by
  have key : ∀ (a b : Nat), ((List.range b).drop a).all mm_kw = true → a ≤ k → k < b → mm_kw k = true := fun a b hh h1 h2 => List.all_eq_true.mp hh k (List.mem_drop_iff_getElem.mpr ⟨k - a, by simp; omega, by simp; omega⟩)
  by_cases c0 : k < 30
  · exact key 0 30 mm_kw_0 (by omega) c0
  by_cases c30 : k < 60
  · exact key 30 60 mm_kw_1 (by omega) c30
  by_cases c60 : k < 90
  · exact key 60 90 mm_kw_2 (by omega) c60
  by_cases c90 : k < 120
  · exact key 90 120 mm_kw_3 (by omega) c90
  by_cases c120 : k < 150
  · exact key 120 150 mm_kw_4 (by omega) c120
  by_cases c150 : k < 180
  · exact key 150 180 mm_kw_5 (by omega) c150
  by_cases c180 : k < 210
  · exact key 180 210 mm_kw_6 (by omega) c180
  by_cases c210 : k < 240
  · exact key 210 240 mm_kw_7 (by omega) c210
  exact key 240 267 mm_kw_8 (by omega) h
set_option maxRecDepth 100000 in
theorem mm_cw_ok : ∀ K ∈ mm_kT.take 267, mm_cw K ∈ lw_tbl := by
  show ∀ K ∈ [mX0_add, mX0_kindOf, mX0_isUnder, mX0_perform, mX0_own, mX0_runFrom, mX0_runOfWord, mX0_runUnderWord, mX1_weigh, mX1_ofOne, mX1_ofAll, mX1_belowAll,
  mX1_together, mX1_bestSet, mX1_drawNight, mX2_forget, mX2_give, mX2_answer, mX2_depict, mX2_layBack, mX3_take, mX3_proclaim, mX3_readText, mX3_readExpression,
  mX3_readOperand, mX3_readNumber, mX3_next, mX3_skips, mX3_add, mX3_isDigit, mX3_isName, mX3_isSign, mX3_mishearing, mX3_workOut, mX3_valueOf, mX3_doStep,
  mX3_joined, mX3_push, mX3_pop, mX4_cellOf, mX4_mayBe, mX4_get, mX4_the, mX4_isPost, mX4_areAlike, mX4_apart, mX4_addPost, mX4_become,
  mX4_makeRoom, mX4_takeBack, mX4_doAgain, mX5_read, mX5_mayBe, mX5_narrow, mX5_fits, mX5_fitsAll, mX5_leastStart, mX6_findBest, mX6_measure, mX6_goOn,
  mX6_leastToCome, mX6_stepTo, mX6_countWays, mX6_tryOn, mX7_isShelf, mX7_refusal, mX7_refusalOfPlace, mX7_hold, mX7_layRow, mX7_read, mX7_write, mX7_narrowed,
  mX7_move, mX8_readFrom, mX8_takeWithFirst, mX8_clear, mX8_goTo, mX8_latest, mX8_together, mX8_behindStart, mX8_hearing, mX8_lets, mX8_admits, mX8_goesIn,
  mX8_known, mX8_patrolsIn, mX8_holdsNeeded, mX9_post, mX9_posts, mX9_mend, mX9_of, mX9_feed, mX9_law, mX9_mishears, mX9_hears, mX9_route,
  mX9_letsIn, mX9_patrol, mX9_holdsFor, mX9_stranger, mX9_safe, mX9_first, mX9_right, mX9_twice, mX9_word, mX9_odds, mX9_guess, mX9_judge,
  mX9_which, mX9_when, mX9_oddWord, mX9_drawn, mX9_change, mX9_tell, mX9_stay, mX9_ask, mX9_led, mX9_image, mX9_back, mX9_undo,
  mX9_redo, mX9_body, mX9_act, mX9_trace, mX9_keep, mX9_row, mX9_put, mX9_element, mX9_shift, mX9_taken, mX9_count, mX9_enlist,
  mX9_comesFromRow, mX9_isPlaceAndMinute, mX9_isPart, mX9_layOut, mX9_layOutBoth, mX9_overheard, mX9_safeFromNew, mX9_safeFromOld, mX9_isSo, mX9_partOf, mX9_commonDivisor, mX10_in,
  mX10_apart, mX10_isPost, mX10_isWord, mX10_addPost, mX10_post, mX10_posts, mX10_valueAt, mX10_lays, mX10_changes, mX10_undo, mX10_redo, mX10_isOne,
  mX10_mayBe, mX10_mend, mX10_of, mX10_feed, mX10_look, mX10_faulty, mX10_addStep, mX10_nameOf, mX10_opens, mX10_figure, mX10_operand, mX10_product,
  mX10_sum, mX10_compared, mX10_both, mX10_either, mX10_line, mX10_readText, mX10_twoOf, mX10_worked, mX10_gives, mX10_law, mX10_mishear, mX10_mishears,
  mX10_placeOf, mX10_rowFault, mX10_at, mX10_distance, mX10_goRoute, mX10_layRoute, mX10_layOr, mX10_latest, mX10_together, mX10_hears, mX10_metRoute, mX10_keepRoute,
  mX10_goRoutes, mX10_findRoutes, mX10_route, mX10_isOldIn, mX10_isNewIn, mX10_bitsIn, mX10_arePost, mX10_letsIn, mX10_isLetIn, mX10_knows, mX10_isHome, mX10_homeMany,
  mX10_patrol, mX10_holdsFor, mX10_overheard, mX10_stranger, mX10_isSafe, mX10_safe, mX10_putFirst, mX10_first, mX10_asPart, mX10_isPart, mX10_rightOf, mX10_rightAll,
  mX10_ofAll, mX10_right, mX10_twice, mX10_word, mX10_isHomeBy, mX10_odds, mX10_choose, mX10_guess, mX10_wrongSaid, mX10_areShelves, mX10_layBoth, mX10_judge,
  mX10_which, mX10_when, mX10_oddWord, mX10_drawn, mX10_getsWord, mX10_change, mX10_tell, mX10_stay, mX10_ask, mX10_led, mX10_image, mX10_back,
  mX10_isBody, mX10_ran, mX10_trace, mX10_body, mX10_isUnder, mX10_plainSays, mX10_strangerSays, mX10_saying, mX10_plainHears, mX10_latherHears, mX10_hearing, mX10_plainHolds,
  mX10_runnerHolds, mX10_holding, mX10_plainTells, mX10_telling, mX10_act, mX10_count, mX10_isShelf, mX10_keep, mX10_row, mX10_whyNoPlace, mX10_put, mX10_element,
  mX10_shift, mX10_taken, mJ6_bitCount_0f7a4], mm_cw K ∈ lw_tbl
  exact List.forall_mem_cons.mpr ⟨cwX0_add, List.forall_mem_cons.mpr ⟨cwX0_kindOf, List.forall_mem_cons.mpr ⟨cwX0_isUnder, List.forall_mem_cons.mpr ⟨cwX0_perform, List.forall_mem_cons.mpr ⟨cwX0_own, List.forall_mem_cons.mpr ⟨cwX0_runFrom, List.forall_mem_cons.mpr ⟨cwX0_runOfWord, List.forall_mem_cons.mpr ⟨cwX0_runUnderWord, List.forall_mem_cons.mpr ⟨cwX1_weigh, List.forall_mem_cons.mpr ⟨cwX1_ofOne, List.forall_mem_cons.mpr ⟨cwX1_ofAll, List.forall_mem_cons.mpr ⟨cwX1_belowAll, List.forall_mem_cons.mpr ⟨cwX1_together, List.forall_mem_cons.mpr ⟨cwX1_bestSet, List.forall_mem_cons.mpr ⟨cwX1_drawNight, List.forall_mem_cons.mpr ⟨cwX2_forget, List.forall_mem_cons.mpr ⟨cwX2_give, List.forall_mem_cons.mpr ⟨cwX2_answer, List.forall_mem_cons.mpr ⟨cwX2_depict, List.forall_mem_cons.mpr ⟨cwX2_layBack, List.forall_mem_cons.mpr ⟨cwX3_take, List.forall_mem_cons.mpr ⟨cwX3_proclaim, List.forall_mem_cons.mpr ⟨cwX3_readText, List.forall_mem_cons.mpr ⟨cwX3_readExpression, List.forall_mem_cons.mpr ⟨cwX3_readOperand, List.forall_mem_cons.mpr ⟨cwX3_readNumber, List.forall_mem_cons.mpr ⟨cwX3_next, List.forall_mem_cons.mpr ⟨cwX3_skips, List.forall_mem_cons.mpr ⟨cwX3_add, List.forall_mem_cons.mpr ⟨cwX3_isDigit, List.forall_mem_cons.mpr ⟨cwX3_isName, List.forall_mem_cons.mpr ⟨cwX3_isSign, List.forall_mem_cons.mpr ⟨cwX3_mishearing, List.forall_mem_cons.mpr ⟨cwX3_workOut, List.forall_mem_cons.mpr ⟨cwX3_valueOf, List.forall_mem_cons.mpr ⟨cwX3_doStep, List.forall_mem_cons.mpr ⟨cwX3_joined, List.forall_mem_cons.mpr ⟨cwX3_push, List.forall_mem_cons.mpr ⟨cwX3_pop, List.forall_mem_cons.mpr ⟨cwX4_cellOf, List.forall_mem_cons.mpr ⟨cwX4_mayBe, List.forall_mem_cons.mpr ⟨cwX4_get, List.forall_mem_cons.mpr ⟨cwX4_the, List.forall_mem_cons.mpr ⟨cwX4_isPost, List.forall_mem_cons.mpr ⟨cwX4_areAlike, List.forall_mem_cons.mpr ⟨cwX4_apart, List.forall_mem_cons.mpr ⟨cwX4_addPost, List.forall_mem_cons.mpr ⟨cwX4_become, List.forall_mem_cons.mpr ⟨cwX4_makeRoom, List.forall_mem_cons.mpr ⟨cwX4_takeBack, List.forall_mem_cons.mpr ⟨cwX4_doAgain, List.forall_mem_cons.mpr ⟨cwX5_read, List.forall_mem_cons.mpr ⟨cwX5_mayBe, List.forall_mem_cons.mpr ⟨cwX5_narrow, List.forall_mem_cons.mpr ⟨cwX5_fits, List.forall_mem_cons.mpr ⟨cwX5_fitsAll, List.forall_mem_cons.mpr ⟨cwX5_leastStart, List.forall_mem_cons.mpr ⟨cwX6_findBest, List.forall_mem_cons.mpr ⟨cwX6_measure, List.forall_mem_cons.mpr ⟨cwX6_goOn, List.forall_mem_cons.mpr ⟨cwX6_leastToCome, List.forall_mem_cons.mpr ⟨cwX6_stepTo, List.forall_mem_cons.mpr ⟨cwX6_countWays, List.forall_mem_cons.mpr ⟨cwX6_tryOn, List.forall_mem_cons.mpr ⟨cwX7_isShelf, List.forall_mem_cons.mpr ⟨cwX7_refusal, List.forall_mem_cons.mpr ⟨cwX7_refusalOfPlace, List.forall_mem_cons.mpr ⟨cwX7_hold, List.forall_mem_cons.mpr ⟨cwX7_layRow, List.forall_mem_cons.mpr ⟨cwX7_read, List.forall_mem_cons.mpr ⟨cwX7_write, List.forall_mem_cons.mpr ⟨cwX7_narrowed, List.forall_mem_cons.mpr ⟨cwX7_move, List.forall_mem_cons.mpr ⟨cwX8_readFrom, List.forall_mem_cons.mpr ⟨cwX8_takeWithFirst, List.forall_mem_cons.mpr ⟨cwX8_clear, List.forall_mem_cons.mpr ⟨cwX8_goTo, List.forall_mem_cons.mpr ⟨cwX8_latest, List.forall_mem_cons.mpr ⟨cwX8_together, List.forall_mem_cons.mpr ⟨cwX8_behindStart, List.forall_mem_cons.mpr ⟨cwX8_hearing, List.forall_mem_cons.mpr ⟨cwX8_lets, List.forall_mem_cons.mpr ⟨cwX8_admits, List.forall_mem_cons.mpr ⟨cwX8_goesIn, List.forall_mem_cons.mpr ⟨cwX8_known, List.forall_mem_cons.mpr ⟨cwX8_patrolsIn, List.forall_mem_cons.mpr ⟨cwX8_holdsNeeded, List.forall_mem_cons.mpr ⟨cwX9_post, List.forall_mem_cons.mpr ⟨cwX9_posts, List.forall_mem_cons.mpr ⟨cwX9_mend, List.forall_mem_cons.mpr ⟨cwX9_of, List.forall_mem_cons.mpr ⟨cwX9_feed, List.forall_mem_cons.mpr ⟨cwX9_law, List.forall_mem_cons.mpr ⟨cwX9_mishears, List.forall_mem_cons.mpr ⟨cwX9_hears, List.forall_mem_cons.mpr ⟨cwX9_route, List.forall_mem_cons.mpr ⟨cwX9_letsIn, List.forall_mem_cons.mpr ⟨cwX9_patrol, List.forall_mem_cons.mpr ⟨cwX9_holdsFor, List.forall_mem_cons.mpr ⟨cwX9_stranger, List.forall_mem_cons.mpr ⟨cwX9_safe, List.forall_mem_cons.mpr ⟨cwX9_first, List.forall_mem_cons.mpr ⟨cwX9_right, List.forall_mem_cons.mpr ⟨cwX9_twice, List.forall_mem_cons.mpr ⟨cwX9_word, List.forall_mem_cons.mpr ⟨cwX9_odds, List.forall_mem_cons.mpr ⟨cwX9_guess, List.forall_mem_cons.mpr ⟨cwX9_judge, List.forall_mem_cons.mpr ⟨cwX9_which, List.forall_mem_cons.mpr ⟨cwX9_when, List.forall_mem_cons.mpr ⟨cwX9_oddWord, List.forall_mem_cons.mpr ⟨cwX9_drawn, List.forall_mem_cons.mpr ⟨cwX9_change, List.forall_mem_cons.mpr ⟨cwX9_tell, List.forall_mem_cons.mpr ⟨cwX9_stay, List.forall_mem_cons.mpr ⟨cwX9_ask, List.forall_mem_cons.mpr ⟨cwX9_led, List.forall_mem_cons.mpr ⟨cwX9_image, List.forall_mem_cons.mpr ⟨cwX9_back, List.forall_mem_cons.mpr ⟨cwX9_undo, List.forall_mem_cons.mpr ⟨cwX9_redo, List.forall_mem_cons.mpr ⟨cwX9_body, List.forall_mem_cons.mpr ⟨cwX9_act, List.forall_mem_cons.mpr ⟨cwX9_trace, List.forall_mem_cons.mpr ⟨cwX9_keep, List.forall_mem_cons.mpr ⟨cwX9_row, List.forall_mem_cons.mpr ⟨cwX9_put, List.forall_mem_cons.mpr ⟨cwX9_element, List.forall_mem_cons.mpr ⟨cwX9_shift, List.forall_mem_cons.mpr ⟨cwX9_taken, List.forall_mem_cons.mpr ⟨cwX9_count, List.forall_mem_cons.mpr ⟨cwX9_enlist, List.forall_mem_cons.mpr ⟨cwX9_comesFromRow, List.forall_mem_cons.mpr ⟨cwX9_isPlaceAndMinute, List.forall_mem_cons.mpr ⟨cwX9_isPart, List.forall_mem_cons.mpr ⟨cwX9_layOut, List.forall_mem_cons.mpr ⟨cwX9_layOutBoth, List.forall_mem_cons.mpr ⟨cwX9_overheard, List.forall_mem_cons.mpr ⟨cwX9_safeFromNew, List.forall_mem_cons.mpr ⟨cwX9_safeFromOld, List.forall_mem_cons.mpr ⟨cwX9_isSo, List.forall_mem_cons.mpr ⟨cwX9_partOf, List.forall_mem_cons.mpr ⟨cwX9_commonDivisor, List.forall_mem_cons.mpr ⟨cwX10_in, List.forall_mem_cons.mpr ⟨cwX10_apart, List.forall_mem_cons.mpr ⟨cwX10_isPost, List.forall_mem_cons.mpr ⟨cwX10_isWord, List.forall_mem_cons.mpr ⟨cwX10_addPost, List.forall_mem_cons.mpr ⟨cwX10_post, List.forall_mem_cons.mpr ⟨cwX10_posts, List.forall_mem_cons.mpr ⟨cwX10_valueAt, List.forall_mem_cons.mpr ⟨cwX10_lays, List.forall_mem_cons.mpr ⟨cwX10_changes, List.forall_mem_cons.mpr ⟨cwX10_undo, List.forall_mem_cons.mpr ⟨cwX10_redo, List.forall_mem_cons.mpr ⟨cwX10_isOne, List.forall_mem_cons.mpr ⟨cwX10_mayBe, List.forall_mem_cons.mpr ⟨cwX10_mend, List.forall_mem_cons.mpr ⟨cwX10_of, List.forall_mem_cons.mpr ⟨cwX10_feed, List.forall_mem_cons.mpr ⟨cwX10_look, List.forall_mem_cons.mpr ⟨cwX10_faulty, List.forall_mem_cons.mpr ⟨cwX10_addStep, List.forall_mem_cons.mpr ⟨cwX10_nameOf, List.forall_mem_cons.mpr ⟨cwX10_opens, List.forall_mem_cons.mpr ⟨cwX10_figure, List.forall_mem_cons.mpr ⟨cwX10_operand, List.forall_mem_cons.mpr ⟨cwX10_product, List.forall_mem_cons.mpr ⟨cwX10_sum, List.forall_mem_cons.mpr ⟨cwX10_compared, List.forall_mem_cons.mpr ⟨cwX10_both, List.forall_mem_cons.mpr ⟨cwX10_either, List.forall_mem_cons.mpr ⟨cwX10_line, List.forall_mem_cons.mpr ⟨cwX10_readText, List.forall_mem_cons.mpr ⟨cwX10_twoOf, List.forall_mem_cons.mpr ⟨cwX10_worked, List.forall_mem_cons.mpr ⟨cwX10_gives, List.forall_mem_cons.mpr ⟨cwX10_law, List.forall_mem_cons.mpr ⟨cwX10_mishear, List.forall_mem_cons.mpr ⟨cwX10_mishears, List.forall_mem_cons.mpr ⟨cwX10_placeOf, List.forall_mem_cons.mpr ⟨cwX10_rowFault, List.forall_mem_cons.mpr ⟨cwX10_at, List.forall_mem_cons.mpr ⟨cwX10_distance, List.forall_mem_cons.mpr ⟨cwX10_goRoute, List.forall_mem_cons.mpr ⟨cwX10_layRoute, List.forall_mem_cons.mpr ⟨cwX10_layOr, List.forall_mem_cons.mpr ⟨cwX10_latest, List.forall_mem_cons.mpr ⟨cwX10_together, List.forall_mem_cons.mpr ⟨cwX10_hears, List.forall_mem_cons.mpr ⟨cwX10_metRoute, List.forall_mem_cons.mpr ⟨cwX10_keepRoute, List.forall_mem_cons.mpr ⟨cwX10_goRoutes, List.forall_mem_cons.mpr ⟨cwX10_findRoutes, List.forall_mem_cons.mpr ⟨cwX10_route, List.forall_mem_cons.mpr ⟨cwX10_isOldIn, List.forall_mem_cons.mpr ⟨cwX10_isNewIn, List.forall_mem_cons.mpr ⟨cwX10_bitsIn, List.forall_mem_cons.mpr ⟨cwX10_arePost, List.forall_mem_cons.mpr ⟨cwX10_letsIn, List.forall_mem_cons.mpr ⟨cwX10_isLetIn, List.forall_mem_cons.mpr ⟨cwX10_knows, List.forall_mem_cons.mpr ⟨cwX10_isHome, List.forall_mem_cons.mpr ⟨cwX10_homeMany, List.forall_mem_cons.mpr ⟨cwX10_patrol, List.forall_mem_cons.mpr ⟨cwX10_holdsFor, List.forall_mem_cons.mpr ⟨cwX10_overheard, List.forall_mem_cons.mpr ⟨cwX10_stranger, List.forall_mem_cons.mpr ⟨cwX10_isSafe, List.forall_mem_cons.mpr ⟨cwX10_safe, List.forall_mem_cons.mpr ⟨cwX10_putFirst, List.forall_mem_cons.mpr ⟨cwX10_first, List.forall_mem_cons.mpr ⟨cwX10_asPart, List.forall_mem_cons.mpr ⟨cwX10_isPart, List.forall_mem_cons.mpr ⟨cwX10_rightOf, List.forall_mem_cons.mpr ⟨cwX10_rightAll, List.forall_mem_cons.mpr ⟨cwX10_ofAll, List.forall_mem_cons.mpr ⟨cwX10_right, List.forall_mem_cons.mpr ⟨cwX10_twice, List.forall_mem_cons.mpr ⟨cwX10_word, List.forall_mem_cons.mpr ⟨cwX10_isHomeBy, List.forall_mem_cons.mpr ⟨cwX10_odds, List.forall_mem_cons.mpr ⟨cwX10_choose, List.forall_mem_cons.mpr ⟨cwX10_guess, List.forall_mem_cons.mpr ⟨cwX10_wrongSaid, List.forall_mem_cons.mpr ⟨cwX10_areShelves, List.forall_mem_cons.mpr ⟨cwX10_layBoth, List.forall_mem_cons.mpr ⟨cwX10_judge, List.forall_mem_cons.mpr ⟨cwX10_which, List.forall_mem_cons.mpr ⟨cwX10_when, List.forall_mem_cons.mpr ⟨cwX10_oddWord, List.forall_mem_cons.mpr ⟨cwX10_drawn, List.forall_mem_cons.mpr ⟨cwX10_getsWord, List.forall_mem_cons.mpr ⟨cwX10_change, List.forall_mem_cons.mpr ⟨cwX10_tell, List.forall_mem_cons.mpr ⟨cwX10_stay, List.forall_mem_cons.mpr ⟨cwX10_ask, List.forall_mem_cons.mpr ⟨cwX10_led, List.forall_mem_cons.mpr ⟨cwX10_image, List.forall_mem_cons.mpr ⟨cwX10_back, List.forall_mem_cons.mpr ⟨cwX10_isBody, List.forall_mem_cons.mpr ⟨cwX10_ran, List.forall_mem_cons.mpr ⟨cwX10_trace, List.forall_mem_cons.mpr ⟨cwX10_body, List.forall_mem_cons.mpr ⟨cwX10_isUnder, List.forall_mem_cons.mpr ⟨cwX10_plainSays, List.forall_mem_cons.mpr ⟨cwX10_strangerSays, List.forall_mem_cons.mpr ⟨cwX10_saying, List.forall_mem_cons.mpr ⟨cwX10_plainHears, List.forall_mem_cons.mpr ⟨cwX10_latherHears, List.forall_mem_cons.mpr ⟨cwX10_hearing, List.forall_mem_cons.mpr ⟨cwX10_plainHolds, List.forall_mem_cons.mpr ⟨cwX10_runnerHolds, List.forall_mem_cons.mpr ⟨cwX10_holding, List.forall_mem_cons.mpr ⟨cwX10_plainTells, List.forall_mem_cons.mpr ⟨cwX10_telling, List.forall_mem_cons.mpr ⟨cwX10_act, List.forall_mem_cons.mpr ⟨cwX10_count, List.forall_mem_cons.mpr ⟨cwX10_isShelf, List.forall_mem_cons.mpr ⟨cwX10_keep, List.forall_mem_cons.mpr ⟨cwX10_row, List.forall_mem_cons.mpr ⟨cwX10_whyNoPlace, List.forall_mem_cons.mpr ⟨cwX10_put, List.forall_mem_cons.mpr ⟨cwX10_element, List.forall_mem_cons.mpr ⟨cwX10_shift, List.forall_mem_cons.mpr ⟨cwX10_taken, List.forall_mem_cons.mpr ⟨cwJ6_bitCount_0f7a4, fun _ h => absurd h List.not_mem_nil⟩⟩⟩⟩⟩⟩⟩⟩⟩⟩⟩⟩⟩⟩⟩⟩⟩⟩⟩⟩⟩⟩⟩⟩⟩⟩⟩⟩⟩⟩⟩⟩⟩⟩⟩⟩⟩⟩⟩⟩⟩⟩⟩⟩⟩⟩⟩⟩⟩⟩⟩⟩⟩⟩⟩⟩⟩⟩⟩⟩⟩⟩⟩⟩⟩⟩⟩⟩⟩⟩⟩⟩⟩⟩⟩⟩⟩⟩⟩⟩⟩⟩⟩⟩⟩⟩⟩⟩⟩⟩⟩⟩⟩⟩⟩⟩⟩⟩⟩⟩⟩⟩⟩⟩⟩⟩⟩⟩⟩⟩⟩⟩⟩⟩⟩⟩⟩⟩⟩⟩⟩⟩⟩⟩⟩⟩⟩⟩⟩⟩⟩⟩⟩⟩⟩⟩⟩⟩⟩⟩⟩⟩⟩⟩⟩⟩⟩⟩⟩⟩⟩⟩⟩⟩⟩⟩⟩⟩⟩⟩⟩⟩⟩⟩⟩⟩⟩⟩⟩⟩⟩⟩⟩⟩⟩⟩⟩⟩⟩⟩⟩⟩⟩⟩⟩⟩⟩⟩⟩⟩⟩⟩⟩⟩⟩⟩⟩⟩⟩⟩⟩⟩⟩⟩⟩⟩⟩⟩⟩⟩⟩⟩⟩⟩⟩⟩⟩⟩⟩⟩⟩⟩⟩⟩⟩⟩⟩⟩⟩⟩⟩⟩⟩⟩⟩⟩⟩⟩⟩⟩⟩⟩⟩⟩⟩⟩⟩⟩⟩⟩⟩⟩⟩⟩⟩⟩⟩⟩⟩⟩⟩⟩⟩⟩⟩⟩⟩
set_option maxRecDepth 100000 in
theorem mm_k_in {k : Nat} (h : k < 267) : mm_k k ∈ mm_kT.take 267 := by
  have h2 : mm_k k = (mm_kT.take 267)[k]'(by show k < 267; exact h) := by
    unfold mm_k
    rw [List.getElem_take, List.getD_eq_getElem?_getD, List.getElem?_eq_getElem (show k < mm_kT.length from Nat.lt_trans h (by decide +kernel))]
    rfl
  rw [h2]; exact List.getElem_mem _
def mm_fchk (e : Nat × Nat × Nat × Nat × Nat) : Bool := match vwCl[e.2.2.1]? with
  | some q => decide (e.2.2.2.1 < q.2.2) && mm_has e.2.2.2.2 (Cond.fieldLink (mm_own e.1) e.2.1 (q.2.1 e.2.2.2.1).1 (q.2.1 e.2.2.2.1).2.1 (q.2.1 e.2.2.2.1).2.2.1)
  | none => false
theorem mm_flT_ok : mm_flT.all mm_fchk = true := by decide +kernel
theorem mm_fl_spec {c i ci k : Nat} (h : mm_fl c i = some (ci, k)) : ∃ (C : String) (T : u_T) (N : Nat), vwCl[ci]? = some (C, T, N) ∧ k < N ∧ Cond.fieldLink (mm_own c) i (T k).1 (T k).2.1 (T k).2.2.1 ∈ mm_T := by
  unfold mm_fl at h
  cases hf : mm_flT.find? (fun e => e.1 == c && e.2.1 == i) with
  | none => rw [hf] at h; cases h
  | some e =>
    rw [hf] at h
    have h1 := List.find?_some hf
    have h2 := List.all_eq_true.mp mm_flT_ok e (List.mem_of_find?_eq_some hf)
    simp only [Bool.and_eq_true, beq_iff_eq] at h1
    obtain ⟨e1, e2, e3, e4, e5⟩ := e
    obtain ⟨rfl, rfl⟩ := h1
    injection h with h
    injection h with h3 h4
    dsimp only at h3 h4
    subst h3; subst h4
    unfold mm_fchk at h2
    dsimp only at h2
    cases hq : vwCl[e3]? with
    | none => rw [hq] at h2; cases h2
    | some q =>
      rw [hq] at h2
      obtain ⟨C, T, N⟩ := q
      simp only [Bool.and_eq_true, decide_eq_true_eq] at h2
      exact ⟨C, T, N, rfl, h2.1, mm_inT (mm_has_in h2.2) rfl⟩
def mm_kchk : Bool := (List.range 11).all fun ci => match vwCl[ci]? with
  | some q => (List.range q.2.2).all fun k => match mm_fk ci k with
    | 0 => decide (parseFieldDescriptor (q.2.1 k).2.2.1 = some .int) && !(q.2.1 k).2.2.2
    | 1 => decide (parseFieldDescriptor (q.2.1 k).2.2.1 = some .boolean) && !(q.2.1 k).2.2.2
    | 2 => true
    | 3 => decide (parseFieldDescriptor (q.2.1 k).2.2.1 = some (.array .int)) && !(q.2.1 k).2.2.2
    | _ => false
  | none => false
theorem mm_kchk_ok : mm_kchk = true := by decide +kernel
theorem mm_ci_lt {ci : Nat} {q : vw_C} (h : vwCl[ci]? = some q) : ci < 11 := (List.getElem?_eq_some_iff.mp h).1
theorem mm_k_spec {ci k : Nat} {C : String} {T : u_T} {N : Nat} (h : vwCl[ci]? = some (C, T, N)) (hk : k < N) : (mm_fk ci k = 0 → parseFieldDescriptor (T k).2.2.1 = some .int ∧ (T k).2.2.2 = false) ∧ (mm_fk ci k = 1 → parseFieldDescriptor (T k).2.2.1 = some .boolean ∧ (T k).2.2.2 = false) ∧ (mm_fk ci k = 3 → parseFieldDescriptor (T k).2.2.1 = some (.array .int) ∧ (T k).2.2.2 = false) := by
  have h1 := List.all_eq_true.mp mm_kchk_ok ci (List.mem_range.mpr (mm_ci_lt h))
  rw [h] at h1
  have h2 := List.all_eq_true.mp h1 k (List.mem_range.mpr hk)
  refine ⟨fun e => ?_, fun e => ?_, fun e => ?_⟩ <;> · rw [e] at h2; simpa [Bool.and_eq_true] using h2
theorem mm_in0 : ∀ w ∈ u_ws RX0 TX0 5, w ∈ mm_T := fun w h => mm_inT ((by decide +kernel : ∀ w ∈ u_ws RX0 TX0 5, w ∈ lw_tbl) w h) (List.all_eq_true.mp (by decide +kernel : (u_ws RX0 TX0 5).all goodWord = true) w h)
theorem mm_in1 : ∀ w ∈ u_ws RX1 TX1 4, w ∈ mm_T := fun w h => mm_inT ((by decide +kernel : ∀ w ∈ u_ws RX1 TX1 4, w ∈ lw_tbl) w h) (List.all_eq_true.mp (by decide +kernel : (u_ws RX1 TX1 4).all goodWord = true) w h)
theorem mm_in2 : ∀ w ∈ u_ws RX2 TX2 11, w ∈ mm_T := fun w h => mm_inT ((by decide +kernel : ∀ w ∈ u_ws RX2 TX2 11, w ∈ lw_tbl) w h) (List.all_eq_true.mp (by decide +kernel : (u_ws RX2 TX2 11).all goodWord = true) w h)
theorem mm_in3 : ∀ w ∈ u_ws RX3 TX3 10, w ∈ mm_T := fun w h => mm_inT ((by decide +kernel : ∀ w ∈ u_ws RX3 TX3 10, w ∈ lw_tbl) w h) (List.all_eq_true.mp (by decide +kernel : (u_ws RX3 TX3 10).all goodWord = true) w h)
theorem mm_in4 : ∀ w ∈ u_ws RX4 TX4 8, w ∈ mm_T := fun w h => mm_inT ((by decide +kernel : ∀ w ∈ u_ws RX4 TX4 8, w ∈ lw_tbl) w h) (List.all_eq_true.mp (by decide +kernel : (u_ws RX4 TX4 8).all goodWord = true) w h)
theorem mm_in5 : ∀ w ∈ u_ws RX5 TX5 2, w ∈ mm_T := fun w h => mm_inT ((by decide +kernel : ∀ w ∈ u_ws RX5 TX5 2, w ∈ lw_tbl) w h) (List.all_eq_true.mp (by decide +kernel : (u_ws RX5 TX5 2).all goodWord = true) w h)
theorem mm_in6 : ∀ w ∈ u_ws RX6 TX6 8, w ∈ mm_T := fun w h => mm_inT ((by decide +kernel : ∀ w ∈ u_ws RX6 TX6 8, w ∈ lw_tbl) w h) (List.all_eq_true.mp (by decide +kernel : (u_ws RX6 TX6 8).all goodWord = true) w h)
theorem mm_in7 : ∀ w ∈ u_ws RX7 TX7 4, w ∈ mm_T := fun w h => mm_inT ((by decide +kernel : ∀ w ∈ u_ws RX7 TX7 4, w ∈ lw_tbl) w h) (List.all_eq_true.mp (by decide +kernel : (u_ws RX7 TX7 4).all goodWord = true) w h)
theorem mm_in8 : ∀ w ∈ u_ws RX8 TX8 4, w ∈ mm_T := fun w h => mm_inT ((by decide +kernel : ∀ w ∈ u_ws RX8 TX8 4, w ∈ lw_tbl) w h) (List.all_eq_true.mp (by decide +kernel : (u_ws RX8 TX8 4).all goodWord = true) w h)
theorem mm_in9 : ∀ w ∈ u_ws RX9 TX9 10, w ∈ mm_T := fun w h => mm_inT ((by decide +kernel : ∀ w ∈ u_ws RX9 TX9 10, w ∈ lw_tbl) w h) (List.all_eq_true.mp (by decide +kernel : (u_ws RX9 TX9 10).all goodWord = true) w h)
theorem mm_in10 : ∀ w ∈ u_ws RX10 TX10 57, w ∈ mm_T := fun w h => mm_inT ((by decide +kernel : ∀ w ∈ u_ws RX10 TX10 57, w ∈ lw_tbl) w h) (List.all_eq_true.mp (by decide +kernel : (u_ws RX10 TX10 57).all goodWord = true) w h)
theorem mm_cls_spec {ci : Nat} {C : String} {T : u_T} {N : Nat} (h : vwCl[ci]? = some (C, T, N)) : (∀ w ∈ u_ws C T N, w ∈ mm_T) ∧ C = mm_own ci ∧ ∃ ty : Nat → FieldType, (∀ k, k < N → parseFieldDescriptor (T k).2.2.1 = some (ty k)) ∧ (∀ a, a < N → ∀ b, b < N → a ≠ b → (T a).2.1 ≠ (T b).2.1) := by
  match ci, h with
  | 0, h => cases h; exact ⟨mm_in0, rfl, tyX0, tyX0_ok, nmX0⟩
  | 1, h => cases h; exact ⟨mm_in1, rfl, tyX1, tyX1_ok, nmX1⟩
  | 2, h => cases h; exact ⟨mm_in2, rfl, tyX2, tyX2_ok, nmX2⟩
  | 3, h => cases h; exact ⟨mm_in3, rfl, tyX3, tyX3_ok, nmX3⟩
  | 4, h => cases h; exact ⟨mm_in4, rfl, tyX4, tyX4_ok, nmX4⟩
  | 5, h => cases h; exact ⟨mm_in5, rfl, tyX5, tyX5_ok, nmX5⟩
  | 6, h => cases h; exact ⟨mm_in6, rfl, tyX6, tyX6_ok, nmX6⟩
  | 7, h => cases h; exact ⟨mm_in7, rfl, tyX7, tyX7_ok, nmX7⟩
  | 8, h => cases h; exact ⟨mm_in8, rfl, tyX8, tyX8_ok, nmX8⟩
  | 9, h => cases h; exact ⟨mm_in9, rfl, tyX9, tyX9_ok, nmX9⟩
  | 10, h => cases h; exact ⟨mm_in10, rfl, tyX10, tyX10_ok, nmX10⟩
  | n + 11, h => exact absurd (mm_ci_lt h) (by omega)
def mm_mchk (e : Nat × Nat × Nat × Nat × Nat × Nat) : Bool := match e with
  | (c, i, 0, n, k, p) => decide (k < 267) && decide ((mm_kwT.getD k (9, 0, 0, 0, 0)).1 = 0) && decide ((mm_kwT.getD k (9, 0, 0, 0, 0)).2.1 = n) && mm_has p (Cond.methodLink (mm_own c) i (mm_nm (mm_k k)))
  | (c, i, 1, n, k, p) => decide (k < 267) && decide ((mm_kwT.getD k (9, 0, 0, 0, 0)).1 = 1) && decide ((mm_kwT.getD k (9, 0, 0, 0, 0)).2.1 = n) && mm_has p (Cond.methodLink (mm_own c) i (mm_nm (mm_k k)))
  | (c, i, 2, _, _, p) => mm_has p (Cond.methodLink (mm_own c) i Lib.Math.max.name)
  | (c, i, 3, _, _, p) => mm_has p (Cond.methodLink (mm_own c) i Lib.Math.min.name)
  | (c, i, 4, _, _, p) => mm_has p (Cond.methodLink (mm_own c) i Lib.Math.abs.name)
  | (c, i, 5, _, _, p) => mm_has p (Cond.methodLink (mm_own c) i arraycopyName)
  | _ => false
theorem mm_ml_1t : (mm_mlT.take 110).all mm_mchk = true := by decide +kernel
theorem mm_ml_2t : ((mm_mlT.drop 110).take 110).all mm_mchk = true := by decide +kernel
theorem mm_ml_3t : ((mm_mlT.drop 110).drop 110).all mm_mchk = true := by decide +kernel
theorem mm_mlT_ok (e : Nat × Nat × Nat × Nat × Nat × Nat) (h : e ∈ mm_mlT) : mm_mchk e = true := by
  rw [← List.take_append_drop 110 mm_mlT] at h
  rcases List.mem_append.mp h with h | h
  · exact List.all_eq_true.mp mm_ml_1t e h
  · rw [← List.take_append_drop 110 (mm_mlT.drop 110)] at h
    rcases List.mem_append.mp h with h | h
    · exact List.all_eq_true.mp mm_ml_2t e h
    · exact List.all_eq_true.mp mm_ml_3t e h
theorem mm_ml_mem {c i kd n k : Nat} (h : mm_ml c i = some (kd, n, k)) : ∃ r, (c, i, kd, n, k, r) ∈ mm_mlT := by
  unfold mm_ml at h
  cases hf : mm_mlT.find? (fun e => e.1 == c && e.2.1 == i) with
  | none => rw [hf] at h; cases h
  | some e =>
    rw [hf] at h
    have h1 := List.find?_some hf
    have hm := List.mem_of_find?_eq_some hf
    simp only [Bool.and_eq_true, beq_iff_eq] at h1
    obtain ⟨e1, e2, e3, e4, e5, r⟩ := e
    obtain ⟨rfl, rfl⟩ := h1
    injection h with h
    injection h with h3 h4
    injection h4 with h4 h5
    dsimp only at h3 h4 h5
    subst h3; subst h4; subst h5
    exact ⟨r, hm⟩
/-- a method that may be called: its name is plain, its words are there -/
def mm_gd (K : mm_K) (n : Nat) : Prop := ((mm_nm K).cls ≠ "java/lang/invoke/MethodHandle" ∧ (mm_nm K).cls ≠ "java/lang/invoke/VarHandle" ∧ (parseMethodDescriptor (mm_nm K).desc).map (fun d => d.parameters.length) = some n) ∧ plainName (mm_nm K).cls = true ∧ K.2.2.1 < 4 ∧ (mm_nm K).cls = mm_own K.2.2.2.1 ∧ mm_cw K ∈ mm_T ∧ Cond.initialized (mm_nm K).cls ∈ mm_T
theorem mm_gd_of {k : Nat} (h : k < 267) : mm_gd (mm_k k) (mm_kwT.getD k (9, 0, 0, 0, 0)).2.1 ∧ ((mm_kwT.getD k (9, 0, 0, 0, 0)).1 = 0 → Cond.instanceMethod (mm_nm (mm_k k)) ∈ mm_T ∧ Cond.selects (mm_nm (mm_k k)).cls (mm_nm (mm_k k)) (mm_nm (mm_k k)) ∈ mm_T) ∧ ((mm_kwT.getD k (9, 0, 0, 0, 0)).1 = 1 → Cond.static (mm_nm (mm_k k)) ∈ mm_T) := by
  have h1 := mm_kw_ok h
  unfold mm_kw mm_kw1 at h1
  have hc := mm_cw_ok _ (mm_k_in h)
  simp only [Bool.and_eq_true, decide_eq_true_eq] at h1
  obtain ⟨⟨⟨⟨⟨⟨⟨a1, a2⟩, a3⟩, a4⟩, a5⟩, a6⟩, a7⟩, a8⟩ := h1
  refine ⟨⟨⟨a1, a2, a3⟩, a4, a5, a6, mm_inT hc rfl, mm_inT (mm_has_in a7) rfl⟩, fun e => ?_, fun e => ?_⟩
  · rw [if_pos e] at a8
    simp only [Bool.and_eq_true] at a8
    exact ⟨mm_inT (mm_has_in a8.1) rfl, mm_inT (mm_has_in a8.2) rfl⟩
  · rw [if_neg (by rw [e]; decide)] at a8
    exact mm_inT (mm_has_in a8) rfl
theorem mm_ml_0 {c i n k : Nat} (h : mm_ml c i = some (0, n, k)) : mm_gd (mm_k k) n ∧ Cond.methodLink (mm_own c) i (mm_nm (mm_k k)) ∈ mm_T ∧ Cond.instanceMethod (mm_nm (mm_k k)) ∈ mm_T ∧ Cond.selects (mm_nm (mm_k k)).cls (mm_nm (mm_k k)) (mm_nm (mm_k k)) ∈ mm_T := by
  obtain ⟨p, hm⟩ := mm_ml_mem h
  have h2 := mm_mlT_ok _ hm
  simp only [mm_mchk, Bool.and_eq_true, decide_eq_true_eq] at h2
  obtain ⟨⟨⟨a1, a2⟩, a3⟩, a4⟩ := h2
  obtain ⟨g1, g2, -⟩ := mm_gd_of a1
  rw [a3] at g1
  exact ⟨g1, mm_inT (mm_has_in a4) rfl, g2 a2⟩
theorem mm_ml_1 {c i n k : Nat} (h : mm_ml c i = some (1, n, k)) : mm_gd (mm_k k) n ∧ Cond.methodLink (mm_own c) i (mm_nm (mm_k k)) ∈ mm_T ∧ Cond.static (mm_nm (mm_k k)) ∈ mm_T := by
  obtain ⟨p, hm⟩ := mm_ml_mem h
  have h2 := mm_mlT_ok _ hm
  simp only [mm_mchk, Bool.and_eq_true, decide_eq_true_eq] at h2
  obtain ⟨⟨⟨a1, a2⟩, a3⟩, a4⟩ := h2
  obtain ⟨g1, -, g2⟩ := mm_gd_of a1
  rw [a3] at g1
  exact ⟨g1, mm_inT (mm_has_in a4) rfl, g2 a2⟩
theorem mm_ml_2 {c i n k : Nat} (h : mm_ml c i = some (2, n, k)) : Cond.methodLink (mm_own c) i Lib.Math.max.name ∈ mm_T := by
  obtain ⟨p, hm⟩ := mm_ml_mem h
  exact mm_inT (mm_has_in (mm_mlT_ok _ hm)) rfl
theorem mm_ml_3 {c i n k : Nat} (h : mm_ml c i = some (3, n, k)) : Cond.methodLink (mm_own c) i Lib.Math.min.name ∈ mm_T := by
  obtain ⟨p, hm⟩ := mm_ml_mem h
  exact mm_inT (mm_has_in (mm_mlT_ok _ hm)) rfl
theorem mm_ml_4 {c i n k : Nat} (h : mm_ml c i = some (4, n, k)) : Cond.methodLink (mm_own c) i Lib.Math.abs.name ∈ mm_T := by
  obtain ⟨p, hm⟩ := mm_ml_mem h
  exact mm_inT (mm_has_in (mm_mlT_ok _ hm)) rfl
theorem mm_ml_5 {c i n k : Nat} (h : mm_ml c i = some (5, n, k)) : Cond.methodLink (mm_own c) i arraycopyName ∈ mm_T := by
  obtain ⟨p, hm⟩ := mm_ml_mem h
  exact mm_inT (mm_has_in (mm_mlT_ok _ hm)) rfl
theorem mm_wMath : Cond.initialized "java/lang/Math" ∈ mm_T := by refine mm_inT (by decide +kernel) rfl
theorem mm_wMax : Cond.static Lib.Math.max.name ∈ mm_T ∧ Cond.code Lib.Math.max.name Lib.Math.max.code 2 (some .int) ∈ mm_T := by refine ⟨mm_inT (by decide +kernel) rfl, mm_inT (by decide +kernel) rfl⟩
theorem mm_wMin : Cond.static Lib.Math.min.name ∈ mm_T ∧ Cond.code Lib.Math.min.name Lib.Math.min.code 2 (some .int) ∈ mm_T := by refine ⟨mm_inT (by decide +kernel) rfl, mm_inT (by decide +kernel) rfl⟩
theorem mm_wAbs : Cond.static Lib.Math.abs.name ∈ mm_T ∧ Cond.code Lib.Math.abs.name Lib.Math.abs.code 1 (some .int) ∈ mm_T := by refine ⟨mm_inT (by decide +kernel) rfl, mm_inT (by decide +kernel) rfl⟩
theorem mm_wCopy : Cond.native arraycopyName ∈ mm_T ∧ Cond.static arraycopyName ∈ mm_T ∧ Cond.initialized "java/lang/System" ∈ mm_T := by refine ⟨mm_inT (by decide +kernel) rfl, mm_inT (by decide +kernel) rfl, mm_inT (by decide +kernel) rfl⟩
theorem mm_cIT_ok : mm_cIT.all (fun e => mm_has e.2.2.2 (Cond.constant (mm_own e.1) e.2.1 (Int32.ofInt e.2.2.1)) && decide (-2147483648 ≤ e.2.2.1 ∧ e.2.2.1 < 2147483648)) = true := by decide +kernel
theorem mm_cLT_ok : mm_cLT.all (fun e => mm_has e.2.2.2 (Cond.constantLong (mm_own e.1) e.2.1 (Int64.ofInt e.2.2.1)) && decide (-9223372036854775808 ≤ e.2.2.1 ∧ e.2.2.1 < 9223372036854775808)) = true := by decide +kernel
theorem mm_cI_spec {c i : Nat} {v : Int} (h : mm_cI c i = some v) : Cond.constant (mm_own c) i (Int32.ofInt v) ∈ mm_T ∧ mm_r32 v := by
  unfold mm_cI at h
  cases hf : mm_cIT.find? (fun e => e.1 == c && e.2.1 == i) with
  | none => rw [hf] at h; cases h
  | some e =>
    rw [hf] at h
    have h1 := List.find?_some hf
    have h2 := List.all_eq_true.mp mm_cIT_ok e (List.mem_of_find?_eq_some hf)
    simp only [Bool.and_eq_true, beq_iff_eq] at h1
    obtain ⟨e1, e2, e3, e4⟩ := e
    obtain ⟨rfl, rfl⟩ := h1
    injection h with h
    dsimp only at h
    subst h
    simp only [Bool.and_eq_true, decide_eq_true_eq] at h2
    exact ⟨mm_inT (mm_has_in h2.1) rfl, h2.2⟩
theorem mm_cL_spec {c i : Nat} {v : Int} (h : mm_cL c i = some v) : Cond.constantLong (mm_own c) i (Int64.ofInt v) ∈ mm_T ∧ mm_r64 v := by
  unfold mm_cL at h
  cases hf : mm_cLT.find? (fun e => e.1 == c && e.2.1 == i) with
  | none => rw [hf] at h; cases h
  | some e =>
    rw [hf] at h
    have h1 := List.find?_some hf
    have h2 := List.all_eq_true.mp mm_cLT_ok e (List.mem_of_find?_eq_some hf)
    simp only [Bool.and_eq_true, beq_iff_eq] at h1
    obtain ⟨e1, e2, e3, e4⟩ := e
    obtain ⟨rfl, rfl⟩ := h1
    injection h with h
    dsimp only at h
    subst h
    simp only [Bool.and_eq_true, decide_eq_true_eq] at h2
    exact ⟨mm_inT (mm_has_in h2.1) rfl, h2.2⟩
/-- the static tables: number, class, name, length -/
def mm_statT : List (Nat × String × String × Nat) := [(100, RX4, "BASE", 12), (101, RX4, "AMOUNT", 12), (102, RX4, "LEAST", 12), (103, RX4, "MOST", 12), (104, RX0, "ABOVE", 8), (105, RX0, "OWN", 32)]
theorem mm_stT_ok : mm_stT.all (fun e => mm_statT.any (fun q => q.1 == e.2.2.1 && mm_has e.2.2.2 (Cond.fieldLink (mm_own e.1) e.2.1 q.2.1 q.2.2.1 "[I"))) = true := by decide +kernel
theorem mm_st_spec {c i t : Nat} (h : mm_st c i = some t) : ∃ q ∈ mm_statT, q.1 = t ∧ Cond.fieldLink (mm_own c) i q.2.1 q.2.2.1 "[I" ∈ mm_T := by
  unfold mm_st at h
  cases hf : mm_stT.find? (fun e => e.1 == c && e.2.1 == i) with
  | none => rw [hf] at h; cases h
  | some e =>
    rw [hf] at h
    have h1 := List.find?_some hf
    have h2 := List.all_eq_true.mp mm_stT_ok e (List.mem_of_find?_eq_some hf)
    simp only [Bool.and_eq_true, beq_iff_eq] at h1
    obtain ⟨e1, e2, e3, e4⟩ := e
    obtain ⟨rfl, rfl⟩ := h1
    injection h with h
    dsimp only at h
    subst h
    obtain ⟨q, hq, h3⟩ := List.any_eq_true.mp h2
    simp only [Bool.and_eq_true, beq_iff_eq] at h3
    exact ⟨q, hq, h3.1, mm_inT (mm_has_in h3.2) rfl⟩


/-! tables of the mini machine, by program out of the claim's own words -/
abbrev mm_V : Type := Int ⊕ (Int ⊕ Nat)
abbrev vI (x : Int) : mm_V := Sum.inl x
abbrev vL (x : Int) : mm_V := Sum.inr (Sum.inl x)
abbrev vR (n : Nat) : mm_V := Sum.inr (Sum.inr n)
abbrev mm_M : Type := Nat → Int → Int
abbrev mm_L : Type := List (Option mm_V)
/-- a method: its bytes, locals, kind of answer (0 none, 1 int, 2 boolean, 3 long), class, name, and how deep it may call -/
abbrev mm_K : Type := ByteArray × Nat × Nat × Nat × MethodName × (List mm_V → mm_M → Nat)
abbrev mm_rk (K : mm_K) : List mm_V → mm_M → Nat := K.2.2.2.2.2
def mm_ownT : List String := [RX0, RX1, RX2, RX3, RX4, RX5, RX6, RX7, RX8, RX9, RX10, RJ6, RL]
def mm_own (c : Nat) : String := mm_ownT.getD c ""
def mX0_add : mm_K := (cX0_add, 2, 1, 0, yX0_add, fun _ _ => 1)
def mX0_kindOf : mm_K := (cX0_kindOf, 2, 1, 0, yX0_kindOf, fun _ _ => 1)
def mX0_isUnder : mm_K := (cX0_isUnder, 4, 2, 0, yX0_isUnder, fun _ _ => 1)
def mX0_perform : mm_K := (cX0_perform, 4, 1, 0, yX0_perform, fun _ _ => 161)
def mX0_own : mm_K := (cX0_own, 4, 1, 0, yX0_own, fun a _ => match a with | [_, _, _, .inl d] => 10 + (3 * (42 - d) + 2).toNat | _ => 0)
def mX0_runFrom : mm_K := (cX0_runFrom, 7, 1, 0, yX0_runFrom, fun a _ => match a with | [_, _, _, _, .inl d] => 10 + (3 * (42 - d) + 1).toNat | _ => 0)
def mX0_runOfWord : mm_K := (cX0_runOfWord, 4, 1, 0, yX0_runOfWord, fun a _ => match a with | [_, _, _, .inl d] => 10 + (3 * (42 - d) + 3).toNat | _ => 0)
def mX0_runUnderWord : mm_K := (cX0_runUnderWord, 5, 1, 0, yX0_runUnderWord, fun a _ => match a with | [_, _, _, _, .inl d] => 10 + (3 * (42 - d) + 3).toNat | _ => 0)
def mX1_weigh : mm_K := (cX1_weigh, 8, 0, 1, yX1_weigh, fun _ _ => 5)
def mX1_ofOne : mm_K := (cX1_ofOne, 3, 1, 1, yX1_ofOne, fun _ _ => 1)
def mX1_ofAll : mm_K := (cX1_ofAll, 6, 3, 1, yX1_ofAll, fun _ _ => 2)
def mX1_belowAll : mm_K := (cX1_belowAll, 5, 3, 1, yX1_belowAll, fun _ _ => 1)
def mX1_together : mm_K := (cX1_together, 5, 1, 1, yX1_together, fun _ _ => 2)
def mX1_bestSet : mm_K := (cX1_bestSet, 8, 1, 1, yX1_bestSet, fun _ _ => 3)
def mX1_drawNight : mm_K := (cX1_drawNight, 5, 1, 1, yX1_drawNight, fun _ _ => 1)
def mX2_forget : mm_K := (cX2_forget, 3, 0, 2, yX2_forget, fun _ _ => 1)
def mX2_give : mm_K := (cX2_give, 4, 1, 2, yX2_give, fun _ _ => 1)
def mX2_answer : mm_K := (cX2_answer, 5, 1, 2, yX2_answer, fun _ _ => 1)
def mX2_depict : mm_K := (cX2_depict, 2, 0, 2, yX2_depict, fun _ _ => 1)
def mX2_layBack : mm_K := (cX2_layBack, 3, 0, 2, yX2_layBack, fun _ _ => 2)
def mX3_take : mm_K := (cX3_take, 2, 1, 3, yX3_take, fun _ _ => 1)
def mX3_proclaim : mm_K := (cX3_proclaim, 2, 1, 3, yX3_proclaim, fun _ _ => 82)
def mX3_readText : mm_K := (cX3_readText, 2, 0, 3, yX3_readText, fun _ _ => 81)
def mX3_readExpression : mm_K := (cX3_readExpression, 5, 0, 3, yX3_readExpression, fun a _ => match a with | [_, .inl l, .inl o] => 10 + (8 * (7 - o) + (6 - l)).toNat | _ => 0)
def mX3_readOperand : mm_K := (cX3_readOperand, 3, 0, 3, yX3_readOperand, fun a _ => match a with | [_, .inl o] => 10 + (8 * (7 - o)).toNat | _ => 0)
def mX3_readNumber : mm_K := (cX3_readNumber, 3, 0, 3, yX3_readNumber, fun _ _ => 2)
def mX3_next : mm_K := (cX3_next, 1, 1, 3, yX3_next, fun _ _ => 1)
def mX3_skips : mm_K := (cX3_skips, 2, 2, 3, yX3_skips, fun _ _ => 2)
def mX3_add : mm_K := (cX3_add, 2, 0, 3, yX3_add, fun _ _ => 1)
def mX3_isDigit : mm_K := (cX3_isDigit, 1, 2, 3, yX3_isDigit, fun _ _ => 1)
def mX3_isName : mm_K := (cX3_isName, 1, 2, 3, yX3_isName, fun _ _ => 1)
def mX3_isSign : mm_K := (cX3_isSign, 2, 2, 3, yX3_isSign, fun _ _ => 1)
def mX3_mishearing : mm_K := (cX3_mishearing, 6, 1, 3, yX3_mishearing, fun _ _ => 4)
def mX3_workOut : mm_K := (cX3_workOut, 8, 1, 3, yX3_workOut, fun _ _ => 3)
def mX3_valueOf : mm_K := (cX3_valueOf, 6, 1, 3, yX3_valueOf, fun _ _ => 2)
def mX3_doStep : mm_K := (cX3_doStep, 3, 0, 3, yX3_doStep, fun _ _ => 2)
def mX3_joined : mm_K := (cX3_joined, 3, 1, 3, yX3_joined, fun _ _ => 1)
def mX3_push : mm_K := (cX3_push, 2, 0, 3, yX3_push, fun _ _ => 1)
def mX3_pop : mm_K := (cX3_pop, 1, 1, 3, yX3_pop, fun _ _ => 1)
def mX4_cellOf : mm_K := (cX4_cellOf, 4, 1, 4, yX4_cellOf, fun _ _ => 1)
def mX4_mayBe : mm_K := (cX4_mayBe, 3, 2, 4, yX4_mayBe, fun _ _ => 1)
def mX4_get : mm_K := (cX4_get, 3, 1, 4, yX4_get, fun _ _ => 1)
def mX4_the : mm_K := (cX4_the, 2, 1, 4, yX4_the, fun _ _ => 1)
def mX4_isPost : mm_K := (cX4_isPost, 2, 2, 4, yX4_isPost, fun _ _ => 1)
def mX4_areAlike : mm_K := (cX4_areAlike, 1, 2, 4, yX4_areAlike, fun _ _ => 2)
def mX4_apart : mm_K := (cX4_apart, 3, 1, 4, yX4_apart, fun _ _ => 2)
def mX4_addPost : mm_K := (cX4_addPost, 5, 1, 4, yX4_addPost, fun _ _ => 1)
def mX4_become : mm_K := (cX4_become, 5, 1, 4, yX4_become, fun _ _ => 2)
def mX4_makeRoom : mm_K := (cX4_makeRoom, 1, 0, 4, yX4_makeRoom, fun _ _ => 1)
def mX4_takeBack : mm_K := (cX4_takeBack, 2, 1, 4, yX4_takeBack, fun _ _ => 1)
def mX4_doAgain : mm_K := (cX4_doAgain, 2, 1, 4, yX4_doAgain, fun _ _ => 1)
def mX5_read : mm_K := (cX5_read, 10, 2, 5, yX5_read, fun _ _ => 4)
def mX5_mayBe : mm_K := (cX5_mayBe, 4, 2, 5, yX5_mayBe, fun _ _ => 2)
def mX5_narrow : mm_K := (cX5_narrow, 7, 2, 5, yX5_narrow, fun _ _ => 2)
def mX5_fits : mm_K := (cX5_fits, 3, 2, 5, yX5_fits, fun _ _ => 1)
def mX5_fitsAll : mm_K := (cX5_fitsAll, 4, 2, 5, yX5_fitsAll, fun _ _ => 3)
def mX5_leastStart : mm_K := (cX5_leastStart, 7, 1, 5, yX5_leastStart, fun _ _ => 2)
def mX6_findBest : mm_K := (cX6_findBest, 3, 0, 6, yX6_findBest, fun _ _ => 21)
def mX6_measure : mm_K := (cX6_measure, 4, 0, 6, yX6_measure, fun _ _ => 3)
def mX6_goOn : mm_K := (cX6_goOn, 7, 0, 6, yX6_goOn, fun a _ => match a with | [_, .inl d, _, _, _] => 10 + (8 - d).toNat | _ => 0)
def mX6_leastToCome : mm_K := (cX6_leastToCome, 3, 1, 6, yX6_leastToCome, fun _ _ => 1)
def mX6_stepTo : mm_K := (cX6_stepTo, 3, 1, 6, yX6_stepTo, fun _ _ => 1)
def mX6_countWays : mm_K := (cX6_countWays, 3, 0, 6, yX6_countWays, fun _ _ => 21)
def mX6_tryOn : mm_K := (cX6_tryOn, 8, 0, 6, yX6_tryOn, fun a _ => match a with | [_, _, .inl d, _, _, _] => 10 + (8 - d).toNat | _ => 0)
def mX7_isShelf : mm_K := (cX7_isShelf, 2, 2, 7, yX7_isShelf, fun _ _ => 1)
def mX7_refusal : mm_K := (cX7_refusal, 3, 1, 7, yX7_refusal, fun _ _ => 2)
def mX7_refusalOfPlace : mm_K := (cX7_refusalOfPlace, 3, 1, 7, yX7_refusalOfPlace, fun _ _ => 2)
def mX7_hold : mm_K := (cX7_hold, 3, 0, 7, yX7_hold, fun _ _ => 1)
def mX7_layRow : mm_K := (cX7_layRow, 5, 0, 7, yX7_layRow, fun _ _ => 1)
def mX7_read : mm_K := (cX7_read, 3, 3, 7, yX7_read, fun _ _ => 3)
def mX7_write : mm_K := (cX7_write, 5, 0, 7, yX7_write, fun _ _ => 3)
def mX7_narrowed : mm_K := (cX7_narrowed, 3, 3, 7, yX7_narrowed, fun _ _ => 1)
def mX7_move : mm_K := (cX7_move, 6, 1, 7, yX7_move, fun _ _ => 1)
def mX8_readFrom : mm_K := (cX8_readFrom, 6, 0, 8, yX8_readFrom, fun _ _ => 4)
def mX8_takeWithFirst : mm_K := (cX8_takeWithFirst, 5, 0, 8, yX8_takeWithFirst, fun _ _ => 4)
def mX8_clear : mm_K := (cX8_clear, 2, 0, 8, yX8_clear, fun _ _ => 1)
def mX8_goTo : mm_K := (cX8_goTo, 4, 0, 8, yX8_goTo, fun _ _ => 3)
def mX8_latest : mm_K := (cX8_latest, 1, 1, 8, yX8_latest, fun _ _ => 1)
def mX8_together : mm_K := (cX8_together, 3, 1, 8, yX8_together, fun _ _ => 1)
def mX8_behindStart : mm_K := (cX8_behindStart, 2, 1, 8, yX8_behindStart, fun _ _ => 1)
def mX8_hearing : mm_K := (cX8_hearing, 4, 1, 8, yX8_hearing, fun _ _ => 2)
def mX8_lets : mm_K := (cX8_lets, 7, 1, 8, yX8_lets, fun _ _ => 3)
def mX8_admits : mm_K := (cX8_admits, 7, 2, 8, yX8_admits, fun _ _ => 3)
def mX8_goesIn : mm_K := (cX8_goesIn, 5, 2, 8, yX8_goesIn, fun _ _ => 4)
def mX8_known : mm_K := (cX8_known, 2, 1, 8, yX8_known, fun _ _ => 2)
def mX8_patrolsIn : mm_K := (cX8_patrolsIn, 8, 1, 8, yX8_patrolsIn, fun _ _ => 5)
def mX8_holdsNeeded : mm_K := (cX8_holdsNeeded, 6, 1, 8, yX8_holdsNeeded, fun _ _ => 3)
def mX9_post : mm_K := (cX9_post, 3, 1, 9, yX9_post, fun _ _ => 3)
def mX9_posts : mm_K := (cX9_posts, 7, 1, 9, yX9_posts, fun _ _ => 5)
def mX9_mend : mm_K := (cX9_mend, 5, 1, 9, yX9_mend, fun _ _ => 3)
def mX9_of : mm_K := (cX9_of, 4, 1, 9, yX9_of, fun _ _ => 2)
def mX9_feed : mm_K := (cX9_feed, 2, 1, 9, yX9_feed, fun _ _ => 2)
def mX9_law : mm_K := (cX9_law, 1, 1, 9, yX9_law, fun _ _ => 83)
def mX9_mishears : mm_K := (cX9_mishears, 2, 1, 9, yX9_mishears, fun _ _ => 5)
def mX9_hears : mm_K := (cX9_hears, 5, 1, 9, yX9_hears, fun _ _ => 6)
def mX9_route : mm_K := (cX9_route, 3, 1, 9, yX9_route, fun _ _ => 22)
def mX9_letsIn : mm_K := (cX9_letsIn, 4, 1, 9, yX9_letsIn, fun _ _ => 6)
def mX9_patrol : mm_K := (cX9_patrol, 4, 1, 9, yX9_patrol, fun _ _ => 6)
def mX9_holdsFor : mm_K := (cX9_holdsFor, 6, 1, 9, yX9_holdsFor, fun _ _ => 6)
def mX9_stranger : mm_K := (cX9_stranger, 8, 1, 9, yX9_stranger, fun _ _ => 6)
def mX9_safe : mm_K := (cX9_safe, 5, 1, 9, yX9_safe, fun _ _ => 6)
def mX9_first : mm_K := (cX9_first, 8, 1, 9, yX9_first, fun _ _ => 6)
def mX9_right : mm_K := (cX9_right, 5, 3, 9, yX9_right, fun _ _ => 6)
def mX9_twice : mm_K := (cX9_twice, 5, 3, 9, yX9_twice, fun _ _ => 6)
def mX9_word : mm_K := (cX9_word, 9, 1, 9, yX9_word, fun _ _ => 6)
def mX9_odds : mm_K := (cX9_odds, 8, 3, 9, yX9_odds, fun _ _ => 6)
def mX9_guess : mm_K := (cX9_guess, 7, 3, 9, yX9_guess, fun _ _ => 6)
def mX9_judge : mm_K := (cX9_judge, 7, 1, 9, yX9_judge, fun _ _ => 6)
def mX9_which : mm_K := (cX9_which, 4, 1, 9, yX9_which, fun _ _ => 22)
def mX9_when : mm_K := (cX9_when, 3, 1, 9, yX9_when, fun _ _ => 6)
def mX9_oddWord : mm_K := (cX9_oddWord, 4, 1, 9, yX9_oddWord, fun _ _ => 6)
def mX9_drawn : mm_K := (cX9_drawn, 9, 1, 9, yX9_drawn, fun _ _ => 6)
def mX9_change : mm_K := (cX9_change, 2, 1, 9, yX9_change, fun _ _ => 2)
def mX9_tell : mm_K := (cX9_tell, 2, 1, 9, yX9_tell, fun _ _ => 2)
def mX9_stay : mm_K := (cX9_stay, 2, 1, 9, yX9_stay, fun _ _ => 1)
def mX9_ask : mm_K := (cX9_ask, 3, 1, 9, yX9_ask, fun _ _ => 2)
def mX9_led : mm_K := (cX9_led, 2, 1, 9, yX9_led, fun _ _ => 1)
def mX9_image : mm_K := (cX9_image, 1, 1, 9, yX9_image, fun _ _ => 2)
def mX9_back : mm_K := (cX9_back, 1, 1, 9, yX9_back, fun _ _ => 3)
def mX9_undo : mm_K := (cX9_undo, 1, 1, 9, yX9_undo, fun _ _ => 2)
def mX9_redo : mm_K := (cX9_redo, 1, 1, 9, yX9_redo, fun _ _ => 2)
def mX9_body : mm_K := (cX9_body, 2, 1, 9, yX9_body, fun _ _ => 2)
def mX9_act : mm_K := (cX9_act, 4, 1, 9, yX9_act, fun _ _ => 162)
def mX9_trace : mm_K := (cX9_trace, 2, 1, 9, yX9_trace, fun _ _ => 1)
def mX9_keep : mm_K := (cX9_keep, 3, 1, 9, yX9_keep, fun _ _ => 2)
def mX9_row : mm_K := (cX9_row, 4, 1, 9, yX9_row, fun _ _ => 2)
def mX9_put : mm_K := (cX9_put, 6, 1, 9, yX9_put, fun _ _ => 4)
def mX9_element : mm_K := (cX9_element, 3, 3, 9, yX9_element, fun _ _ => 4)
def mX9_shift : mm_K := (cX9_shift, 6, 1, 9, yX9_shift, fun _ _ => 2)
def mX9_taken : mm_K := (cX9_taken, 4, 1, 9, yX9_taken, fun _ _ => 2)
def mX9_count : mm_K := (cX9_count, 2, 1, 9, yX9_count, fun _ _ => 1)
def mX9_enlist : mm_K := (cX9_enlist, 5, 1, 9, yX9_enlist, fun _ _ => 2)
def mX9_comesFromRow : mm_K := (cX9_comesFromRow, 9, 2, 9, yX9_comesFromRow, fun _ _ => 4)
def mX9_isPlaceAndMinute : mm_K := (cX9_isPlaceAndMinute, 2, 2, 9, yX9_isPlaceAndMinute, fun _ _ => 2)
def mX9_isPart : mm_K := (cX9_isPart, 1, 2, 9, yX9_isPart, fun _ _ => 1)
def mX9_layOut : mm_K := (cX9_layOut, 3, 1, 9, yX9_layOut, fun _ _ => 5)
def mX9_layOutBoth : mm_K := (cX9_layOutBoth, 4, 1, 9, yX9_layOutBoth, fun _ _ => 5)
def mX9_overheard : mm_K := (cX9_overheard, 2, 1, 9, yX9_overheard, fun _ _ => 4)
def mX9_safeFromNew : mm_K := (cX9_safeFromNew, 3, 1, 9, yX9_safeFromNew, fun _ _ => 3)
def mX9_safeFromOld : mm_K := (cX9_safeFromOld, 4, 1, 9, yX9_safeFromOld, fun _ _ => 3)
def mX9_isSo : mm_K := (cX9_isSo, 6, 2, 9, yX9_isSo, fun _ _ => 4)
def mX9_partOf : mm_K := (cX9_partOf, 7, 3, 9, yX9_partOf, fun _ _ => 2)
def mX9_commonDivisor : mm_K := (cX9_commonDivisor, 11, 3, 9, yX9_commonDivisor, fun _ _ => 1)
def mX10_in : mm_K := (cX10_in, 3, 2, 10, yX10_in, fun _ _ => 1)
def mX10_apart : mm_K := (cX10_apart, 2, 1, 10, yX10_apart, fun _ _ => 1)
def mX10_isPost : mm_K := (cX10_isPost, 2, 2, 10, yX10_isPost, fun _ _ => 2)
def mX10_isWord : mm_K := (cX10_isWord, 1, 2, 10, yX10_isWord, fun _ _ => 2)
def mX10_addPost : mm_K := (cX10_addPost, 4, 1, 10, yX10_addPost, fun _ _ => 1)
def mX10_post : mm_K := (cX10_post, 3, 1, 10, yX10_post, fun _ _ => 2)
def mX10_posts : mm_K := (cX10_posts, 8, 1, 10, yX10_posts, fun _ _ => 3)
def mX10_valueAt : mm_K := (cX10_valueAt, 3, 1, 10, yX10_valueAt, fun _ _ => 1)
def mX10_lays : mm_K := (cX10_lays, 4, 0, 10, yX10_lays, fun _ _ => 1)
def mX10_changes : mm_K := (cX10_changes, 6, 1, 10, yX10_changes, fun _ _ => 2)
def mX10_undo : mm_K := (cX10_undo, 1, 1, 10, yX10_undo, fun _ _ => 2)
def mX10_redo : mm_K := (cX10_redo, 1, 1, 10, yX10_redo, fun _ _ => 2)
def mX10_isOne : mm_K := (cX10_isOne, 3, 2, 10, yX10_isOne, fun _ _ => 3)
def mX10_mayBe : mm_K := (cX10_mayBe, 2, 2, 10, yX10_mayBe, fun _ _ => 3)
def mX10_mend : mm_K := (cX10_mend, 4, 1, 10, yX10_mend, fun _ _ => 4)
def mX10_of : mm_K := (cX10_of, 3, 1, 10, yX10_of, fun _ _ => 4)
def mX10_feed : mm_K := (cX10_feed, 2, 1, 10, yX10_feed, fun _ _ => 2)
def mX10_look : mm_K := (cX10_look, 1, 1, 10, yX10_look, fun _ _ => 1)
def mX10_faulty : mm_K := (cX10_faulty, 1, 0, 10, yX10_faulty, fun _ _ => 1)
def mX10_addStep : mm_K := (cX10_addStep, 3, 0, 10, yX10_addStep, fun _ _ => 1)
def mX10_nameOf : mm_K := (cX10_nameOf, 1, 1, 10, yX10_nameOf, fun _ _ => 1)
def mX10_opens : mm_K := (cX10_opens, 1, 2, 10, yX10_opens, fun _ _ => 2)
def mX10_figure : mm_K := (cX10_figure, 3, 0, 10, yX10_figure, fun _ _ => 2)
def mX10_operand : mm_K := (cX10_operand, 2, 0, 10, yX10_operand, fun _ h => 10 + (8 * (7 - h 47 24) + 0).toNat)
def mX10_product : mm_K := (cX10_product, 2, 0, 10, yX10_product, fun _ h => 10 + (8 * (7 - h 47 24) + 1).toNat)
def mX10_sum : mm_K := (cX10_sum, 2, 0, 10, yX10_sum, fun _ h => 10 + (8 * (7 - h 47 24) + 2).toNat)
def mX10_compared : mm_K := (cX10_compared, 2, 0, 10, yX10_compared, fun _ h => 10 + (8 * (7 - h 47 24) + 3).toNat)
def mX10_both : mm_K := (cX10_both, 1, 0, 10, yX10_both, fun _ h => 10 + (8 * (7 - h 47 24) + 4).toNat)
def mX10_either : mm_K := (cX10_either, 1, 0, 10, yX10_either, fun _ h => 10 + (8 * (7 - h 47 24) + 5).toNat)
def mX10_line : mm_K := (cX10_line, 2, 0, 10, yX10_line, fun _ _ => 81)
def mX10_readText : mm_K := (cX10_readText, 3, 1, 10, yX10_readText, fun _ _ => 82)
def mX10_twoOf : mm_K := (cX10_twoOf, 3, 1, 10, yX10_twoOf, fun _ _ => 1)
def mX10_worked : mm_K := (cX10_worked, 7, 1, 10, yX10_worked, fun _ _ => 2)
def mX10_gives : mm_K := (cX10_gives, 4, 1, 10, yX10_gives, fun _ _ => 3)
def mX10_law : mm_K := (cX10_law, 2, 1, 10, yX10_law, fun _ _ => 83)
def mX10_mishear : mm_K := (cX10_mishear, 4, 1, 10, yX10_mishear, fun _ _ => 4)
def mX10_mishears : mm_K := (cX10_mishears, 2, 1, 10, yX10_mishears, fun _ _ => 5)
def mX10_placeOf : mm_K := (cX10_placeOf, 3, 1, 10, yX10_placeOf, fun _ _ => 1)
def mX10_rowFault : mm_K := (cX10_rowFault, 3, 1, 10, yX10_rowFault, fun _ _ => 1)
def mX10_at : mm_K := (cX10_at, 3, 1, 10, yX10_at, fun _ _ => 1)
def mX10_distance : mm_K := (cX10_distance, 3, 1, 10, yX10_distance, fun _ _ => 2)
def mX10_goRoute : mm_K := (cX10_goRoute, 4, 0, 10, yX10_goRoute, fun _ _ => 3)
def mX10_layRoute : mm_K := (cX10_layRoute, 4, 0, 10, yX10_layRoute, fun _ _ => 4)
def mX10_layOr : mm_K := (cX10_layOr, 3, 1, 10, yX10_layOr, fun _ _ => 5)
def mX10_latest : mm_K := (cX10_latest, 3, 1, 10, yX10_latest, fun _ _ => 1)
def mX10_together : mm_K := (cX10_together, 3, 1, 10, yX10_together, fun _ _ => 1)
def mX10_hears : mm_K := (cX10_hears, 3, 1, 10, yX10_hears, fun _ _ => 5)
def mX10_metRoute : mm_K := (cX10_metRoute, 4, 0, 10, yX10_metRoute, fun _ _ => 5)
def mX10_keepRoute : mm_K := (cX10_keepRoute, 2, 0, 10, yX10_keepRoute, fun _ _ => 1)
def mX10_goRoutes : mm_K := (cX10_goRoutes, 5, 0, 10, yX10_goRoutes, fun _ h => 20 + (8 - h 47 35).toNat)
def mX10_findRoutes : mm_K := (cX10_findRoutes, 3, 0, 10, yX10_findRoutes, fun _ _ => 41)
def mX10_route : mm_K := (cX10_route, 3, 1, 10, yX10_route, fun _ _ => 42)
def mX10_isOldIn : mm_K := (cX10_isOldIn, 3, 2, 10, yX10_isOldIn, fun _ _ => 1)
def mX10_isNewIn : mm_K := (cX10_isNewIn, 3, 2, 10, yX10_isNewIn, fun _ _ => 1)
def mX10_bitsIn : mm_K := (cX10_bitsIn, 4, 1, 10, yX10_bitsIn, fun _ _ => 2)
def mX10_arePost : mm_K := (cX10_arePost, 2, 2, 10, yX10_arePost, fun _ _ => 1)
def mX10_letsIn : mm_K := (cX10_letsIn, 4, 1, 10, yX10_letsIn, fun _ _ => 6)
def mX10_isLetIn : mm_K := (cX10_isLetIn, 5, 2, 10, yX10_isLetIn, fun _ _ => 3)
def mX10_knows : mm_K := (cX10_knows, 2, 1, 10, yX10_knows, fun _ _ => 1)
def mX10_isHome : mm_K := (cX10_isHome, 2, 2, 10, yX10_isHome, fun _ _ => 4)
def mX10_homeMany : mm_K := (cX10_homeMany, 3, 1, 10, yX10_homeMany, fun _ _ => 5)
def mX10_patrol : mm_K := (cX10_patrol, 4, 1, 10, yX10_patrol, fun _ _ => 6)
def mX10_holdsFor : mm_K := (cX10_holdsFor, 6, 1, 10, yX10_holdsFor, fun _ _ => 6)
def mX10_overheard : mm_K := (cX10_overheard, 2, 1, 10, yX10_overheard, fun _ _ => 3)
def mX10_stranger : mm_K := (cX10_stranger, 7, 1, 10, yX10_stranger, fun _ _ => 6)
def mX10_isSafe : mm_K := (cX10_isSafe, 5, 2, 10, yX10_isSafe, fun _ _ => 4)
def mX10_safe : mm_K := (cX10_safe, 8, 1, 10, yX10_safe, fun _ _ => 6)
def mX10_putFirst : mm_K := (cX10_putFirst, 4, 0, 10, yX10_putFirst, fun _ _ => 4)
def mX10_first : mm_K := (cX10_first, 9, 1, 10, yX10_first, fun _ _ => 6)
def mX10_asPart : mm_K := (cX10_asPart, 11, 3, 10, yX10_asPart, fun _ _ => 1)
def mX10_isPart : mm_K := (cX10_isPart, 1, 2, 10, yX10_isPart, fun _ _ => 2)
def mX10_rightOf : mm_K := (cX10_rightOf, 5, 3, 10, yX10_rightOf, fun _ _ => 5)
def mX10_rightAll : mm_K := (cX10_rightAll, 5, 3, 10, yX10_rightAll, fun _ _ => 6)
def mX10_ofAll : mm_K := (cX10_ofAll, 4, 3, 10, yX10_ofAll, fun _ _ => 1)
def mX10_right : mm_K := (cX10_right, 8, 3, 10, yX10_right, fun _ _ => 7)
def mX10_twice : mm_K := (cX10_twice, 9, 3, 10, yX10_twice, fun _ _ => 7)
def mX10_word : mm_K := (cX10_word, 10, 1, 10, yX10_word, fun _ _ => 7)
def mX10_isHomeBy : mm_K := (cX10_isHomeBy, 4, 2, 10, yX10_isHomeBy, fun _ _ => 3)
def mX10_odds : mm_K := (cX10_odds, 7, 3, 10, yX10_odds, fun _ _ => 6)
def mX10_choose : mm_K := (cX10_choose, 5, 3, 10, yX10_choose, fun _ _ => 1)
def mX10_guess : mm_K := (cX10_guess, 7, 3, 10, yX10_guess, fun _ _ => 6)
def mX10_wrongSaid : mm_K := (cX10_wrongSaid, 5, 1, 10, yX10_wrongSaid, fun _ _ => 4)
def mX10_areShelves : mm_K := (cX10_areShelves, 1, 2, 10, yX10_areShelves, fun _ _ => 3)
def mX10_layBoth : mm_K := (cX10_layBoth, 2, 1, 10, yX10_layBoth, fun _ _ => 5)
def mX10_judge : mm_K := (cX10_judge, 3, 1, 10, yX10_judge, fun _ _ => 6)
def mX10_which : mm_K := (cX10_which, 5, 1, 10, yX10_which, fun _ _ => 42)
def mX10_when : mm_K := (cX10_when, 6, 1, 10, yX10_when, fun _ _ => 6)
def mX10_oddWord : mm_K := (cX10_oddWord, 6, 1, 10, yX10_oddWord, fun _ _ => 6)
def mX10_drawn : mm_K := (cX10_drawn, 12, 1, 10, yX10_drawn, fun _ _ => 6)
def mX10_getsWord : mm_K := (cX10_getsWord, 4, 1, 10, yX10_getsWord, fun _ _ => 1)
def mX10_change : mm_K := (cX10_change, 2, 1, 10, yX10_change, fun _ _ => 3)
def mX10_tell : mm_K := (cX10_tell, 2, 1, 10, yX10_tell, fun _ _ => 3)
def mX10_stay : mm_K := (cX10_stay, 2, 1, 10, yX10_stay, fun _ _ => 2)
def mX10_ask : mm_K := (cX10_ask, 4, 1, 10, yX10_ask, fun _ _ => 3)
def mX10_led : mm_K := (cX10_led, 2, 1, 10, yX10_led, fun _ _ => 2)
def mX10_image : mm_K := (cX10_image, 2, 1, 10, yX10_image, fun _ _ => 1)
def mX10_back : mm_K := (cX10_back, 3, 1, 10, yX10_back, fun _ _ => 1)
def mX10_isBody : mm_K := (cX10_isBody, 2, 2, 10, yX10_isBody, fun _ _ => 2)
def mX10_ran : mm_K := (cX10_ran, 2, 0, 10, yX10_ran, fun _ _ => 1)
def mX10_trace : mm_K := (cX10_trace, 2, 1, 10, yX10_trace, fun _ _ => 1)
def mX10_body : mm_K := (cX10_body, 2, 1, 10, yX10_body, fun _ _ => 2)
def mX10_isUnder : mm_K := (cX10_isUnder, 2, 2, 10, yX10_isUnder, fun _ _ => 1)
def mX10_plainSays : mm_K := (cX10_plainSays, 3, 1, 10, yX10_plainSays, fun _ _ => 2)
def mX10_strangerSays : mm_K := (cX10_strangerSays, 3, 1, 10, yX10_strangerSays, fun _ _ => 3)
def mX10_saying : mm_K := (cX10_saying, 3, 1, 10, yX10_saying, fun _ _ => 4)
def mX10_plainHears : mm_K := (cX10_plainHears, 3, 1, 10, yX10_plainHears, fun _ _ => 5)
def mX10_latherHears : mm_K := (cX10_latherHears, 3, 1, 10, yX10_latherHears, fun _ _ => 6)
def mX10_hearing : mm_K := (cX10_hearing, 4, 1, 10, yX10_hearing, fun _ _ => 7)
def mX10_plainHolds : mm_K := (cX10_plainHolds, 3, 1, 10, yX10_plainHolds, fun _ _ => 2)
def mX10_runnerHolds : mm_K := (cX10_runnerHolds, 3, 1, 10, yX10_runnerHolds, fun _ _ => 3)
def mX10_holding : mm_K := (cX10_holding, 4, 1, 10, yX10_holding, fun _ _ => 5)
def mX10_plainTells : mm_K := (cX10_plainTells, 4, 1, 10, yX10_plainTells, fun _ _ => 8)
def mX10_telling : mm_K := (cX10_telling, 3, 1, 10, yX10_telling, fun _ _ => 9)
def mX10_act : mm_K := (cX10_act, 4, 1, 10, yX10_act, fun _ _ => 10)
def mX10_count : mm_K := (cX10_count, 2, 1, 10, yX10_count, fun _ _ => 1)
def mX10_isShelf : mm_K := (cX10_isShelf, 1, 2, 10, yX10_isShelf, fun _ _ => 2)
def mX10_keep : mm_K := (cX10_keep, 3, 1, 10, yX10_keep, fun _ _ => 3)
def mX10_row : mm_K := (cX10_row, 5, 1, 10, yX10_row, fun _ _ => 3)
def mX10_whyNoPlace : mm_K := (cX10_whyNoPlace, 3, 1, 10, yX10_whyNoPlace, fun _ _ => 3)
def mX10_put : mm_K := (cX10_put, 7, 1, 10, yX10_put, fun _ _ => 4)
def mX10_element : mm_K := (cX10_element, 3, 3, 10, yX10_element, fun _ _ => 4)
def mX10_shift : mm_K := (cX10_shift, 7, 1, 10, yX10_shift, fun _ _ => 3)
def mX10_taken : mm_K := (cX10_taken, 3, 1, 10, yX10_taken, fun _ _ => 3)
def mJ6_bitCount_0f7a4 : mm_K := (cJ6_bitCount_0f7a4, 1, 1, 11, yJ6_bitCount_0f7a4, fun _ _ => 1)
def mL_law : mm_K := (cL_law, 4, 2, 12, yL_law, fun _ _ => 700)
def mm_kT : List mm_K := [mX0_add, mX0_kindOf, mX0_isUnder, mX0_perform, mX0_own, mX0_runFrom, mX0_runOfWord, mX0_runUnderWord, mX1_weigh, mX1_ofOne, mX1_ofAll, mX1_belowAll,
  mX1_together, mX1_bestSet, mX1_drawNight, mX2_forget, mX2_give, mX2_answer, mX2_depict, mX2_layBack, mX3_take, mX3_proclaim, mX3_readText, mX3_readExpression,
  mX3_readOperand, mX3_readNumber, mX3_next, mX3_skips, mX3_add, mX3_isDigit, mX3_isName, mX3_isSign, mX3_mishearing, mX3_workOut, mX3_valueOf, mX3_doStep,
  mX3_joined, mX3_push, mX3_pop, mX4_cellOf, mX4_mayBe, mX4_get, mX4_the, mX4_isPost, mX4_areAlike, mX4_apart, mX4_addPost, mX4_become,
  mX4_makeRoom, mX4_takeBack, mX4_doAgain, mX5_read, mX5_mayBe, mX5_narrow, mX5_fits, mX5_fitsAll, mX5_leastStart, mX6_findBest, mX6_measure, mX6_goOn,
  mX6_leastToCome, mX6_stepTo, mX6_countWays, mX6_tryOn, mX7_isShelf, mX7_refusal, mX7_refusalOfPlace, mX7_hold, mX7_layRow, mX7_read, mX7_write, mX7_narrowed,
  mX7_move, mX8_readFrom, mX8_takeWithFirst, mX8_clear, mX8_goTo, mX8_latest, mX8_together, mX8_behindStart, mX8_hearing, mX8_lets, mX8_admits, mX8_goesIn,
  mX8_known, mX8_patrolsIn, mX8_holdsNeeded, mX9_post, mX9_posts, mX9_mend, mX9_of, mX9_feed, mX9_law, mX9_mishears, mX9_hears, mX9_route,
  mX9_letsIn, mX9_patrol, mX9_holdsFor, mX9_stranger, mX9_safe, mX9_first, mX9_right, mX9_twice, mX9_word, mX9_odds, mX9_guess, mX9_judge,
  mX9_which, mX9_when, mX9_oddWord, mX9_drawn, mX9_change, mX9_tell, mX9_stay, mX9_ask, mX9_led, mX9_image, mX9_back, mX9_undo,
  mX9_redo, mX9_body, mX9_act, mX9_trace, mX9_keep, mX9_row, mX9_put, mX9_element, mX9_shift, mX9_taken, mX9_count, mX9_enlist,
  mX9_comesFromRow, mX9_isPlaceAndMinute, mX9_isPart, mX9_layOut, mX9_layOutBoth, mX9_overheard, mX9_safeFromNew, mX9_safeFromOld, mX9_isSo, mX9_partOf, mX9_commonDivisor, mX10_in,
  mX10_apart, mX10_isPost, mX10_isWord, mX10_addPost, mX10_post, mX10_posts, mX10_valueAt, mX10_lays, mX10_changes, mX10_undo, mX10_redo, mX10_isOne,
  mX10_mayBe, mX10_mend, mX10_of, mX10_feed, mX10_look, mX10_faulty, mX10_addStep, mX10_nameOf, mX10_opens, mX10_figure, mX10_operand, mX10_product,
  mX10_sum, mX10_compared, mX10_both, mX10_either, mX10_line, mX10_readText, mX10_twoOf, mX10_worked, mX10_gives, mX10_law, mX10_mishear, mX10_mishears,
  mX10_placeOf, mX10_rowFault, mX10_at, mX10_distance, mX10_goRoute, mX10_layRoute, mX10_layOr, mX10_latest, mX10_together, mX10_hears, mX10_metRoute, mX10_keepRoute,
  mX10_goRoutes, mX10_findRoutes, mX10_route, mX10_isOldIn, mX10_isNewIn, mX10_bitsIn, mX10_arePost, mX10_letsIn, mX10_isLetIn, mX10_knows, mX10_isHome, mX10_homeMany,
  mX10_patrol, mX10_holdsFor, mX10_overheard, mX10_stranger, mX10_isSafe, mX10_safe, mX10_putFirst, mX10_first, mX10_asPart, mX10_isPart, mX10_rightOf, mX10_rightAll,
  mX10_ofAll, mX10_right, mX10_twice, mX10_word, mX10_isHomeBy, mX10_odds, mX10_choose, mX10_guess, mX10_wrongSaid, mX10_areShelves, mX10_layBoth, mX10_judge,
  mX10_which, mX10_when, mX10_oddWord, mX10_drawn, mX10_getsWord, mX10_change, mX10_tell, mX10_stay, mX10_ask, mX10_led, mX10_image, mX10_back,
  mX10_isBody, mX10_ran, mX10_trace, mX10_body, mX10_isUnder, mX10_plainSays, mX10_strangerSays, mX10_saying, mX10_plainHears, mX10_latherHears, mX10_hearing, mX10_plainHolds,
  mX10_runnerHolds, mX10_holding, mX10_plainTells, mX10_telling, mX10_act, mX10_count, mX10_isShelf, mX10_keep, mX10_row, mX10_whyNoPlace, mX10_put, mX10_element,
  mX10_shift, mX10_taken, mJ6_bitCount_0f7a4, mL_law]
def mm_k (n : Nat) : mm_K := mm_kT.getD n mX0_add
/-- class, pool entry, class of the field, its place, where its word stands -/
def mm_flT : List (Nat × Nat × Nat × Nat × Nat) := [(4, 9, 4, 0, 130), (9, 112, 4, 0, 131), (4, 27, 4, 1, 132), (9, 79, 4, 1, 133), (6, 37, 4, 1, 134), (5, 59, 4, 1, 135), (4, 59, 4, 2, 136), (9, 373, 4, 2, 137), (4, 62, 4, 3, 138), (4, 56, 4, 4, 139), (4, 15, 4, 5, 140), (4, 18, 4, 6, 141),
  (4, 21, 4, 7, 142), (3, 24, 3, 0, 167), (9, 370, 3, 0, 168), (3, 11, 3, 1, 169), (3, 35, 3, 2, 170), (3, 31, 3, 3, 171), (3, 15, 3, 4, 172), (3, 38, 3, 5, 173), (3, 18, 3, 6, 174), (3, 41, 3, 7, 175), (3, 21, 3, 8, 176), (3, 94, 3, 9, 177),
  (7, 11, 7, 0, 205), (9, 358, 7, 0, 206), (7, 15, 7, 1, 207), (8, 24, 7, 1, 208), (5, 20, 7, 1, 209), (9, 253, 7, 1, 210), (7, 18, 7, 2, 211), (9, 361, 7, 2, 212), (7, 21, 7, 3, 213), (8, 29, 8, 0, 230), (1, 21, 8, 0, 231), (9, 189, 8, 0, 232),
  (8, 9, 8, 1, 233), (1, 27, 8, 1, 234), (9, 196, 8, 1, 235), (8, 15, 8, 2, 236), (9, 239, 8, 2, 237), (8, 18, 8, 3, 238), (1, 54, 1, 0, 254), (9, 281, 1, 0, 255), (1, 9, 1, 1, 256), (1, 15, 1, 2, 257), (1, 18, 1, 3, 258), (5, 9, 5, 0, 274),
  (5, 15, 5, 1, 275), (6, 26, 6, 0, 287), (9, 148, 6, 0, 288), (6, 9, 6, 1, 289), (9, 151, 6, 1, 290), (6, 65, 6, 2, 291), (9, 267, 6, 2, 292), (6, 68, 6, 3, 293), (9, 270, 6, 3, 294), (6, 48, 6, 4, 295), (6, 21, 6, 5, 296), (6, 15, 6, 6, 297),
  (6, 18, 6, 7, 298), (2, 41, 2, 0, 322), (9, 109, 2, 0, 323), (2, 9, 2, 1, 324), (9, 105, 2, 1, 325), (2, 15, 2, 2, 326), (2, 18, 2, 3, 327), (2, 21, 2, 4, 328), (9, 293, 2, 4, 329), (2, 24, 2, 5, 330), (9, 306, 2, 5, 331), (2, 44, 2, 6, 332),
  (2, 28, 2, 7, 333), (2, 31, 2, 8, 334), (2, 34, 2, 9, 335), (2, 37, 2, 10, 336), (0, 18, 0, 0, 366), (9, 333, 0, 0, 367), (0, 25, 0, 1, 368), (9, 324, 0, 1, 369), (0, 11, 0, 2, 370), (9, 327, 0, 2, 371), (0, 15, 0, 3, 372), (0, 32, 0, 4, 373),
  (9, 10, 9, 0, 385), (9, 19, 9, 1, 386), (9, 26, 9, 2, 387), (9, 33, 9, 3, 388), (9, 37, 9, 4, 389), (9, 43, 9, 5, 390), (9, 50, 9, 6, 391), (9, 57, 9, 7, 392), (9, 64, 9, 8, 393), (9, 71, 9, 9, 394), (10, 133, 10, 1, 1062), (10, 9, 10, 2, 1063),
  (10, 15, 10, 3, 1064), (10, 18, 10, 4, 1065), (10, 21, 10, 5, 1066), (10, 24, 10, 6, 1067), (10, 27, 10, 7, 1068), (10, 30, 10, 8, 1069), (10, 33, 10, 9, 1070), (10, 140, 10, 10, 1071), (10, 36, 10, 11, 1072), (10, 153, 10, 12, 1073), (10, 40, 10, 13, 1074), (10, 163, 10, 14, 1075),
  (10, 160, 10, 15, 1076), (10, 43, 10, 16, 1077), (10, 46, 10, 17, 1078), (10, 49, 10, 18, 1079), (10, 52, 10, 19, 1080), (10, 55, 10, 20, 1081), (10, 189, 10, 21, 1082), (10, 192, 10, 22, 1083), (10, 195, 10, 23, 1084), (10, 201, 10, 24, 1085), (10, 198, 10, 25, 1086), (10, 59, 10, 26, 1087),
  (10, 62, 10, 27, 1088), (10, 65, 10, 28, 1089), (10, 68, 10, 29, 1090), (10, 72, 10, 30, 1091), (10, 75, 10, 31, 1092), (10, 78, 10, 32, 1093), (10, 256, 10, 33, 1094), (10, 81, 10, 34, 1095), (10, 269, 10, 35, 1096), (10, 84, 10, 36, 1097), (10, 87, 10, 37, 1098), (10, 306, 10, 38, 1099),
  (10, 300, 10, 39, 1100), (10, 90, 10, 40, 1101), (10, 93, 10, 41, 1102), (10, 96, 10, 42, 1103), (10, 186, 10, 43, 1104), (10, 99, 10, 44, 1105), (10, 102, 10, 45, 1106), (10, 395, 10, 46, 1107), (10, 105, 10, 47, 1108), (10, 108, 10, 48, 1109), (10, 398, 10, 49, 1110), (10, 111, 10, 50, 1111),
  (10, 401, 10, 51, 1112), (10, 114, 10, 52, 1113), (10, 117, 10, 53, 1114), (10, 120, 10, 54, 1115), (10, 123, 10, 55, 1116), (10, 127, 10, 56, 1117)]
def mm_fl (c i : Nat) : Option (Nat × Nat) := (mm_flT.find? (fun e => e.1 == c && e.2.1 == i)).map (fun e => (e.2.2.1, e.2.2.2.1))
/-- static tables: class, pool entry, the table, where its word stands -/
def mm_stT : List (Nat × Nat × Nat × Nat) := [(4, 24, 100, 128), (4, 34, 102, 424), (4, 37, 103, 426), (4, 31, 101, 477), (0, 43, 105, 987), (0, 22, 104, 989)]
def mm_st (c i : Nat) : Option Nat := (mm_stT.find? (fun e => e.1 == c && e.2.1 == i)).map (fun e => e.2.2.1)
/-- class, pool entry, kind (0 virtual, 1 static, 2 max, 3 min, 4 abs, 5 arraycopy), how many arguments, the method, where its word stands -/
def mm_mlT : List (Nat × Nat × Nat × Nat × Nat × Nat) := [(12, 13, 0, 2, 87, 416), (9, 75, 0, 2, 40, 420), (9, 83, 0, 3, 131, 428), (9, 376, 0, 3, 46, 432), (9, 123, 0, 1, 42, 436), (9, 379, 0, 2, 15, 440), (12, 18, 0, 3, 88, 445), (9, 87, 0, 2, 65, 449),
  (7, 25, 0, 1, 64, 453), (9, 91, 0, 3, 132, 457), (9, 351, 0, 2, 69, 461), (7, 29, 0, 2, 66, 465), (12, 23, 0, 3, 89, 469), (9, 95, 0, 2, 39, 473), (9, 98, 0, 2, 47, 479), (4, 53, 0, 0, 48, 483),
  (12, 27, 0, 2, 90, 487), (9, 101, 0, 1, 43, 491), (12, 31, 0, 1, 91, 495), (9, 115, 0, 1, 20, 499), (12, 36, 0, 0, 92, 503), (9, 119, 0, 0, 21, 507), (3, 28, 0, 0, 22, 511), (3, 44, 0, 2, 23, 515),
  (3, 56, 0, 1, 24, 519), (3, 59, 0, 0, 26, 523), (3, 67, 1, 1, 29, 527), (3, 70, 0, 0, 25, 530), (3, 52, 0, 1, 28, 534), (3, 73, 1, 1, 30, 538), (3, 48, 0, 1, 27, 541), (3, 63, 1, 2, 31, 545),
  (12, 41, 0, 1, 93, 548), (9, 126, 0, 4, 32, 552), (3, 76, 0, 2, 41, 556), (3, 82, 0, 4, 33, 560), (3, 97, 0, 0, 38, 564), (3, 100, 0, 1, 37, 568), (3, 103, 1, 5, 34, 572), (3, 110, 4, 0, 0, 575),
  (3, 107, 0, 1, 35, 578), (3, 114, 1, 3, 36, 582), (3, 86, 3, 0, 0, 585), (3, 91, 2, 0, 0, 588), (12, 45, 0, 2, 94, 591), (9, 130, 0, 1, 135, 595), (9, 382, 0, 3, 73, 599), (8, 21, 0, 0, 75, 603),
  (8, 33, 0, 2, 69, 607), (8, 37, 0, 1, 43, 608), (8, 43, 0, 2, 76, 609), (8, 47, 0, 2, 45, 613), (4, 44, 0, 2, 41, 617), (4, 48, 4, 0, 0, 618), (9, 133, 0, 0, 77, 619), (9, 136, 0, 0, 78, 623),
  (9, 139, 0, 2, 80, 627), (8, 52, 0, 1, 79, 631), (8, 56, 0, 1, 42, 636), (12, 49, 0, 2, 95, 638), (9, 144, 0, 2, 57, 642), (6, 29, 0, 1, 58, 647), (6, 42, 2, 0, 0, 651), (6, 51, 0, 2, 45, 652),
  (6, 33, 0, 4, 59, 653), (6, 53, 0, 2, 60, 657), (6, 56, 5, 0, 0, 661), (6, 62, 0, 2, 61, 664), (12, 53, 0, 2, 96, 668), (9, 154, 0, 1, 133, 672), (9, 157, 0, 3, 81, 676), (8, 59, 0, 2, 80, 680),
  (8, 63, 0, 0, 44, 681), (4, 40, 0, 1, 42, 685), (12, 57, 0, 2, 97, 686), (9, 161, 0, 2, 85, 690), (8, 67, 0, 2, 41, 694), (8, 77, 0, 3, 83, 695), (8, 70, 1, 2, 84, 699), (8, 73, 0, 5, 82, 702),
  (9, 164, 0, 3, 83, 706), (12, 61, 0, 1, 98, 707), (9, 168, 0, 2, 86, 711), (8, 81, 2, 0, 0, 715), (9, 171, 2, 0, 0, 716), (12, 65, 0, 3, 99, 717), (9, 176, 0, 1, 137, 721), (9, 179, 0, 5, 82, 725),
  (12, 69, 0, 3, 100, 726), (9, 183, 0, 1, 138, 730), (9, 244, 0, 0, 44, 734), (9, 186, 0, 1, 139, 735), (9, 228, 3, 0, 0, 739), (12, 73, 0, 2, 101, 740), (9, 192, 0, 3, 74, 744), (12, 77, 0, 4, 102, 748),
  (9, 199, 1, 1, 134, 752), (9, 204, 0, 4, 8, 756), (1, 30, 0, 4, 32, 760), (9, 208, 0, 2, 10, 761), (1, 36, 0, 2, 9, 765), (9, 212, 0, 1, 11, 769), (9, 216, 1, 3, 141, 774), (9, 389, 1, 2, 142, 777),
  (9, 220, 0, 2, 12, 780), (9, 225, 0, 2, 9, 785), (12, 82, 0, 3, 103, 786), (9, 231, 0, 2, 13, 790), (1, 44, 1, 1, 266, 795), (1, 50, 0, 2, 10, 801), (12, 87, 0, 1, 104, 802), (12, 91, 0, 3, 105, 807),
  (9, 236, 0, 2, 41, 811), (12, 95, 0, 4, 106, 813), (12, 99, 0, 1, 107, 818), (9, 250, 0, 1, 136, 822), (9, 330, 0, 1, 64, 826), (9, 256, 0, 2, 140, 827), (9, 386, 1, 4, 52, 831), (5, 37, 0, 1, 43, 834),
  (5, 43, 0, 2, 40, 835), (12, 103, 0, 2, 108, 836), (9, 259, 0, 4, 51, 840), (5, 25, 0, 2, 69, 846), (5, 29, 1, 4, 52, 847), (5, 33, 0, 5, 53, 848), (5, 46, 0, 1, 42, 852), (5, 50, 3, 0, 0, 853),
  (5, 56, 2, 0, 0, 854), (9, 263, 0, 2, 62, 855), (6, 71, 0, 1, 42, 859), (6, 75, 0, 2, 54, 860), (6, 81, 0, 5, 63, 864), (12, 107, 0, 1, 109, 868), (9, 273, 0, 2, 56, 872), (5, 72, 0, 1, 79, 876),
  (12, 111, 0, 1, 110, 877), (9, 277, 0, 2, 55, 881), (5, 63, 0, 2, 80, 885), (5, 69, 0, 2, 54, 886), (12, 115, 0, 4, 111, 887), (9, 284, 0, 1, 14, 891), (9, 288, 1, 1, 266, 896), (12, 120, 0, 1, 112, 897),
  (9, 296, 0, 2, 16, 901), (12, 124, 0, 1, 113, 905), (12, 128, 0, 1, 114, 909), (12, 132, 0, 2, 115, 913), (9, 299, 0, 3, 17, 917), (12, 136, 0, 1, 116, 921), (12, 140, 0, 0, 117, 925), (9, 302, 0, 1, 18, 929),
  (2, 47, 5, 0, 0, 933), (12, 144, 0, 0, 118, 934), (9, 309, 0, 1, 19, 938), (2, 53, 0, 2, 15, 942), (12, 148, 0, 0, 119, 943), (9, 312, 0, 0, 49, 947), (12, 152, 0, 0, 120, 951), (9, 315, 0, 0, 50, 955),
  (12, 156, 0, 1, 121, 959), (9, 318, 0, 1, 0, 963), (12, 160, 0, 3, 122, 967), (9, 321, 0, 3, 3, 971), (0, 28, 0, 1, 1, 975), (0, 35, 0, 3, 4, 979), (0, 39, 0, 4, 5, 983), (0, 46, 0, 3, 6, 991),
  (0, 49, 0, 4, 7, 995), (12, 164, 0, 1, 123, 999), (12, 168, 0, 2, 124, 1003), (9, 336, 0, 2, 67, 1007), (12, 172, 0, 3, 125, 1011), (9, 340, 0, 3, 68, 1015), (12, 178, 0, 3, 126, 1019), (9, 344, 0, 2, 66, 1023),
  (9, 347, 0, 3, 70, 1024), (7, 33, 1, 2, 71, 1028), (12, 183, 0, 2, 127, 1031), (12, 188, 0, 5, 128, 1035), (9, 354, 0, 5, 72, 1039), (7, 37, 5, 0, 0, 1043), (12, 193, 0, 2, 129, 1044), (9, 364, 0, 1, 1, 1048),
  (9, 367, 1, 2, 2, 1049), (12, 197, 0, 1, 130, 1052), (12, 17, 0, 2, 148, 1235), (10, 136, 1, 3, 143, 1239), (10, 143, 0, 3, 147, 1242), (12, 22, 0, 3, 149, 1246), (10, 147, 1, 1, 258, 1250), (12, 151, 0, 0, 153, 1254),
  (10, 166, 0, 3, 151, 1258), (12, 155, 0, 0, 154, 1262), (12, 26, 0, 3, 157, 1266), (10, 176, 0, 2, 155, 1270), (10, 170, 0, 1, 145, 1274), (10, 173, 1, 1, 146, 1278), (10, 180, 1, 2, 156, 1281), (10, 183, 0, 3, 152, 1284),
  (10, 156, 0, 2, 150, 1288), (12, 30, 0, 2, 158, 1292), (12, 35, 0, 1, 159, 1296), (12, 40, 0, 0, 177, 1300), (10, 253, 0, 1, 173, 1304), (10, 244, 0, 0, 172, 1308), (10, 226, 0, 0, 171, 1312), (10, 241, 0, 0, 170, 1316),
  (10, 238, 0, 0, 169, 1320), (10, 235, 0, 0, 168, 1324), (10, 232, 0, 0, 167, 1328), (10, 223, 0, 0, 166, 1332), (10, 207, 0, 0, 160, 1336), (10, 215, 1, 1, 163, 1340), (10, 211, 0, 2, 162, 1343), (10, 219, 0, 0, 164, 1347),
  (10, 204, 0, 0, 161, 1351), (10, 229, 0, 0, 165, 1355), (12, 44, 0, 1, 179, 1359), (10, 266, 0, 2, 178, 1363), (10, 260, 1, 2, 144, 1367), (10, 263, 0, 1, 176, 1370), (10, 250, 0, 3, 175, 1374), (10, 247, 1, 3, 174, 1378),
  (12, 48, 0, 2, 189, 1381), (10, 284, 0, 2, 181, 1385), (10, 287, 0, 1, 185, 1389), (10, 275, 0, 2, 182, 1393), (10, 278, 0, 1, 180, 1397), (10, 281, 0, 0, 184, 1401), (10, 272, 0, 2, 183, 1405), (10, 291, 0, 0, 188, 1409),
  (10, 294, 0, 0, 187, 1413), (12, 52, 0, 2, 194, 1417), (10, 315, 0, 2, 193, 1421), (10, 312, 0, 3, 192, 1425), (10, 309, 0, 2, 190, 1429), (10, 297, 0, 1, 224, 1433), (10, 336, 0, 3, 200, 1437), (10, 330, 0, 2, 197, 1441),
  (10, 318, 0, 2, 195, 1445), (10, 321, 0, 2, 196, 1449), (10, 303, 0, 0, 191, 1453), (12, 56, 0, 2, 199, 1457), (10, 324, 1, 2, 198, 1461), (10, 327, 0, 1, 186, 1464), (12, 60, 0, 2, 204, 1468), (10, 342, 0, 0, 203, 1472),
  (10, 339, 0, 1, 202, 1476), (10, 333, 0, 1, 201, 1480), (12, 64, 0, 1, 205, 1484), (12, 68, 0, 3, 207, 1488), (10, 345, 0, 1, 206, 1492), (12, 72, 0, 3, 209, 1496), (10, 348, 0, 2, 208, 1500), (12, 76, 0, 2, 211, 1504),
  (10, 351, 0, 1, 210, 1508), (12, 81, 0, 4, 217, 1512), (10, 360, 1, 1, 213, 1516), (10, 365, 0, 1, 215, 1520), (10, 354, 0, 2, 214, 1524), (10, 369, 0, 0, 216, 1528), (10, 373, 1, 3, 212, 1533), (12, 86, 0, 3, 218, 1536),
  (12, 90, 0, 1, 219, 1540), (12, 94, 0, 3, 221, 1544), (10, 377, 0, 2, 220, 1548), (12, 98, 0, 4, 223, 1553), (10, 382, 1, 2, 222, 1557), (12, 102, 0, 1, 227, 1560), (10, 385, 1, 1, 225, 1564), (10, 388, 0, 1, 226, 1567),
  (12, 106, 0, 2, 228, 1571), (12, 110, 0, 1, 229, 1575), (12, 114, 0, 1, 230, 1579), (12, 119, 0, 4, 231, 1583), (12, 123, 0, 1, 233, 1588), (10, 392, 0, 2, 232, 1592), (12, 127, 0, 1, 234, 1596), (12, 131, 0, 1, 235, 1600),
  (12, 135, 0, 2, 236, 1604), (12, 139, 0, 1, 237, 1608), (12, 143, 0, 0, 238, 1612), (12, 147, 0, 0, 239, 1616), (12, 167, 0, 1, 242, 1620), (12, 159, 0, 1, 243, 1624), (12, 163, 0, 3, 256, 1628), (10, 440, 0, 1, 240, 1632),
  (10, 416, 0, 2, 247, 1636), (10, 410, 1, 2, 244, 1640), (10, 404, 0, 1, 241, 1643), (10, 407, 0, 2, 245, 1647), (10, 413, 0, 2, 246, 1651), (10, 434, 0, 2, 250, 1655), (10, 422, 0, 2, 249, 1659), (10, 419, 0, 2, 248, 1663),
  (10, 425, 0, 2, 253, 1667), (10, 431, 0, 2, 252, 1671), (10, 428, 0, 2, 251, 1675), (10, 443, 0, 2, 255, 1679), (10, 437, 0, 2, 254, 1683), (12, 200, 0, 1, 257, 1687), (12, 171, 0, 2, 259, 1691), (12, 175, 0, 3, 260, 1695),
  (12, 182, 0, 3, 262, 1699), (10, 446, 0, 2, 261, 1703), (12, 187, 0, 2, 263, 1707), (12, 192, 0, 5, 264, 1711), (12, 196, 0, 2, 265, 1715)]
def mm_ml (c i : Nat) : Option (Nat × Nat × Nat) := (mm_mlT.find? (fun e => e.1 == c && e.2.1 == i)).map (fun e => (e.2.2.1, e.2.2.2.1, e.2.2.2.2.1))
def mm_cIT : List (Nat × Nat × Int × Nat) := [(2, 40, -2000000000, 444), (8, 51, 1000000, 635), (9, 143, 1000000, 637), (6, 25, 1000000, 646), (11, 265, 1431655765, 798), (11, 266, 858993459, 799), (11, 267, 252645135, 800), (5, 18, -1000000, 844), (5, 19, 1000000, 845), (1, 57, 1103515245, 895), (10, 391, 1103515245, 1587)]
def mm_cI (c i : Nat) : Option Int := (mm_cIT.find? (fun e => e.1 == c && e.2.1 == i)).map (fun e => e.2.2.1)
def mm_cLT : List (Nat × Nat × Int × Nat) := [(9, 202, -9223372036854775808, 755), (1, 40, 144, 773), (9, 223, 144, 784), (1, 42, -1, 794), (9, 234, -1, 806), (9, 242, 12, 812), (9, 248, 10, 817), (10, 151, 2, 1253), (10, 363, -9223372036854775808, 1519), (10, 358, 144, 1532), (10, 380, 12, 1552), (12, 176, 4294967295, 1719)]
def mm_cL (c i : Nat) : Option Int := (mm_cLT.find? (fun e => e.1 == c && e.2.1 == i)).map (fun e => e.2.2.1)
/-- the cells: kind (0 an object, 1 int[], 2 long[], 3 byte[], 4 short[]), class, how many -/
def mm_obT : List (Nat × Nat × Nat) := [(0, 9, 10), (0, 4, 8), (0, 3, 10), (0, 7, 4), (0, 8, 4), (0, 8, 4), (0, 1, 4), (0, 5, 2), (0, 6, 8), (0, 2, 11), (0, 0, 5), (1, 0, 57),
  (1, 0, 40), (1, 0, 40), (1, 0, 40), (1, 0, 120), (1, 0, 121), (1, 0, 121), (1, 0, 64), (1, 0, 6), (1, 0, 6), (1, 0, 6), (2, 0, 360), (1, 0, 6),
  (1, 0, 7), (1, 0, 7), (1, 0, 6), (1, 0, 7), (1, 0, 7), (1, 0, 7), (1, 0, 7), (1, 0, 7), (1, 0, 7), (1, 0, 7), (1, 0, 6), (1, 0, 6),
  (1, 0, 49), (1, 0, 7), (1, 0, 7), (1, 0, 7), (1, 0, 4), (1, 0, 7), (1, 0, 7), (1, 0, 7), (1, 0, 4), (1, 0, 24), (1, 0, 50), (0, 10, 57),
  (1, 0, 7), (1, 0, 7), (1, 0, 7), (1, 0, 10), (1, 0, 10), (1, 0, 4), (1, 0, 4), (1, 0, 4), (1, 0, 40), (1, 0, 40), (1, 0, 40), (1, 0, 40),
  (3, 0, 120), (3, 0, 260), (1, 0, 260), (1, 0, 2), (4, 0, 122), (4, 0, 122), (1, 0, 6), (1, 0, 130), (1, 0, 7), (1, 0, 7), (1, 0, 7), (1, 0, 7),
  (1, 0, 7), (1, 0, 7), (1, 0, 4), (1, 0, 21), (1, 0, 4), (1, 0, 50), (1, 0, 24), (1, 0, 6), (1, 0, 6), (2, 0, 360), (2, 0, 60)]
def mm_no : Nat := 83
def mm_ctT : List (Nat × List Int) := [(100, [0, 7, 14, 21, 31, 41, 45, 49, 53, 54, 55, 56]),
  (101, [7, 7, 7, 10, 10, 4, 4, 4, 1, 1, 1, 1]),
  (102, [0, 0, 0, 1, 0, 0, 0, 0, 0, 0, 0, 0]),
  (103, [99, 99, 12, 9, 9, 999, 999, 6, 9, 9, 999, 999]),
  (104, [-1, 0, 0, 2, 1, 3, 0, 6]),
  (105, [1, 10, 11, 2, 20, 0, 0, 0, 0, 30, 0, 0, 0, 41, 40, 0, 0, 0, 0, 50, 0, 0, 60, 61, 70, 0, 0, 0, 81, 80, 0, 0])]
/-- what a static table holds -/
def mm_ct (c : Nat) (i : Int) : Int := match c with
  | 100 => ([0, 7, 14, 21, 31, 41, 45, 49, 53, 54, 55, 56] : List Int).getD i.toNat 0
  | 101 => ([7, 7, 7, 10, 10, 4, 4, 4, 1, 1, 1, 1] : List Int).getD i.toNat 0
  | 102 => ([0, 0, 0, 1, 0, 0, 0, 0, 0, 0, 0, 0] : List Int).getD i.toNat 0
  | 103 => ([99, 99, 12, 9, 9, 999, 999, 6, 9, 9, 999, 999] : List Int).getD i.toNat 0
  | 104 => ([-1, 0, 0, 2, 1, 3, 0, 6] : List Int).getD i.toNat 0
  | 105 => ([1, 10, 11, 2, 20, 0, 0, 0, 0, 30, 0, 0, 0, 41, 40, 0, 0, 0, 0, 50, 0, 0, 60, 61, 70, 0, 0, 0, 81, 80, 0, 0] : List Int).getD i.toNat 0
  | _ => 0
/-- an array's kind: as the cells', 5 a static table, 6 the script; 9 none -/
def mm_ak (c : Nat) : Nat := if c < 83 then (mm_obT.getD c (9, 0, 0)).1 else if 100 ≤ c ∧ c ≤ 105 then 5 else if c = 110 then 6 else 9
def mm_an (c : Nat) : Int := if c < 83 then ((mm_obT.getD c (9, 0, 0)).2.2 : Nat) else (([12, 12, 12, 12, 8, 32] : List Nat).getD (c - 100) 0 : Nat)
def mm_oc (c : Nat) : Option Nat := match mm_obT[c]? with | some (0, ci, _) => some ci | _ => none
/-- a field's kind: 0 int, 1 boolean, 2 a final reference, 3 another reference -/
def mm_fkT : List (List Nat) := [[0, 0, 2, 2, 0],
  [0, 2, 2, 2],
  [0, 2, 2, 2, 2, 0, 0, 2, 2, 2, 2],
  [0, 2, 0, 1, 3, 0, 3, 0, 2, 0],
  [2, 0, 0, 0, 0, 2, 2, 2],
  [2, 2],
  [0, 2, 0, 0, 0, 0, 2, 2],
  [2, 2, 2, 2],
  [0, 2, 2, 2],
  [2, 2, 2, 2, 2, 2, 2, 2, 2, 2],
  [0, 0, 2, 2, 2, 2, 2, 2, 2, 2, 0, 0, 0, 0, 0, 0, 2, 2, 2, 2, 2, 0, 0, 0, 0, 0, 2, 2, 2, 2, 2, 2, 2, 1, 2, 0, 2, 2, 0, 0, 2, 2, 2, 0, 2, 0, 0, 2, 2, 0, 2, 0, 2, 2, 2, 2, 2]]
def mm_fk (ci k : Nat) : Nat := (mm_fkT.getD ci []).getD k 9
def mm_rfT : List (Nat × Nat × Nat) := [(1, 0, 11), (1, 5, 12), (1, 6, 13), (1, 7, 14), (2, 1, 15), (2, 8, 18), (3, 0, 19), (3, 1, 20), (3, 2, 21), (3, 3, 22), (4, 1, 23), (4, 2, 24),
  (4, 3, 25), (5, 1, 26), (5, 2, 27), (5, 3, 28), (6, 1, 29), (6, 2, 30), (6, 3, 31), (7, 0, 32), (7, 1, 33), (8, 1, 34), (8, 6, 35), (8, 7, 36),
  (9, 1, 37), (9, 2, 38), (9, 3, 39), (9, 4, 40), (9, 7, 41), (9, 8, 42), (9, 9, 43), (9, 10, 44), (10, 2, 45), (10, 3, 46), (0, 0, 1), (0, 1, 2),
  (0, 2, 3), (0, 3, 4), (0, 4, 5), (0, 5, 6), (0, 6, 7), (0, 7, 8), (0, 8, 9), (0, 9, 10), (47, 2, 48), (47, 3, 49), (47, 4, 50), (47, 5, 51),
  (47, 6, 52), (47, 7, 53), (47, 8, 54), (47, 9, 55), (47, 16, 56), (47, 17, 57), (47, 18, 58), (47, 19, 59), (47, 20, 60), (47, 26, 61), (47, 27, 62), (47, 28, 63),
  (47, 29, 64), (47, 30, 65), (47, 31, 66), (47, 32, 67), (47, 34, 68), (47, 36, 69), (47, 37, 70), (47, 40, 71), (47, 41, 72), (47, 42, 73), (47, 44, 74), (47, 47, 75),
  (47, 48, 76), (47, 50, 77), (47, 52, 78), (47, 53, 79), (47, 54, 80), (47, 55, 81), (47, 56, 82)]
def mm_rf (c k : Nat) : Nat := ((mm_rfT.find? (fun e => e.1 == c && e.2.1 == k)).map (fun e => e.2.2)).getD 0
def mm_r32 (x : Int) : Prop := -2147483648 ≤ x ∧ x < 2147483648
def mm_r64 (x : Int) : Prop := -9223372036854775808 ≤ x ∧ x < 9223372036854775808

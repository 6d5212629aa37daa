/-! printed by wip/whole/gen2.py: the methods, what the tables say of them, of fields and of links -/
def qX0_init : am_MI := (yX0_init, cX0_init, 2, none, [])
def qX0_drawSentence : am_MI := (yX0_drawSentence, cX0_drawSentence, 4, none, [])
def qX0_leavesOf : am_MI := (yX0_leavesOf, cX0_leavesOf, 6, (some .int), [])
def qX0_addConstraint : am_MI := (yX0_addConstraint, cX0_addConstraint, 3, none, [])
def qX0_dropLastConstraint : am_MI := (yX0_dropLastConstraint, cX0_dropLastConstraint, 1, none, [])
def qX0_targetsOf : am_MI := (yX0_targetsOf, cX0_targetsOf, 4, (some .int), [])
def qX0_wantedUnder : am_MI := (yX0_wantedUnder, cX0_wantedUnder, 2, (some .int), [])
def qX0_drawConclusions : am_MI := (yX0_drawConclusions, cX0_drawConclusions, 4, none, [])
def qX0_holesThatWant : am_MI := (yX0_holesThatWant, cX0_holesThatWant, 5, (some .int), [])
def qX0_contradictsItself : am_MI := (yX0_contradictsItself, cX0_contradictsItself, 3, (some .boolean), [])
def qX1_init : am_MI := (yX1_init, cX1_init, 3, none, [])
def qX1_writeFormula : am_MI := (yX1_writeFormula, cX1_writeFormula, 1, none, [])
def qX1_writeFragment : am_MI := (yX1_writeFragment, cX1_writeFragment, 4, none, [])
def qX1_writeAtom : am_MI := (yX1_writeAtom, cX1_writeAtom, 3, none, [])
def qX1_writeWord : am_MI := (yX1_writeWord, cX1_writeWord, 3, none, [])
def qX1_writeSign : am_MI := (yX1_writeSign, cX1_writeSign, 2, none, [])
def qX2_init : am_MI := (yX2_init, cX2_init, 2, none, [])
def qX2_lay : am_MI := (yX2_lay, cX2_lay, 9, none, [])
def qX2_putIn : am_MI := (yX2_putIn, cX2_putIn, 3, none, [])
def qX2_polarityIn : am_MI := (yX2_polarityIn, cX2_polarityIn, 6, (some .int), [])
def qX2_parentOf : am_MI := (yX2_parentOf, cX2_parentOf, 2, (some .int), [])
def qX2_isUnder : am_MI := (yX2_isUnder, cX2_isUnder, 5, (some .boolean), [])
def qX2_orderAfterSwap : am_MI := (yX2_orderAfterSwap, cX2_orderAfterSwap, 8, (some .long), [])
def qX2_extendBy : am_MI := (yX2_extendBy, cX2_extendBy, 8, (some .long), [])
def qX3_init : am_MI := (yX3_init, cX3_init, 4, none, [])
def qX3_forget : am_MI := (yX3_forget, cX3_forget, 1, none, [])
def qX3_workOut : am_MI := (yX3_workOut, cX3_workOut, 2, none, [])
def qX3_findSteps : am_MI := (yX3_findSteps, cX3_findSteps, 5, none, [])
def qX3_isEveryOrSome : am_MI := (yX3_isEveryOrSome, cX3_isEveryOrSome, 2, (some .boolean), [])
def qX3_noteSwap : am_MI := (yX3_noteSwap, cX3_noteSwap, 8, none, [])
def qX3_isStrongOnTop : am_MI := (yX3_isStrongOnTop, cX3_isStrongOnTop, 2, (some .boolean), [])
def qX3_formClass : am_MI := (yX3_formClass, cX3_formClass, 5, none, [])
def qX3_spread : am_MI := (yX3_spread, cX3_spread, 8, (some .int), [])
def qX3_leadsTo : am_MI := (yX3_leadsTo, cX3_leadsTo, 3, (some .boolean), [])
def qX3_countClasses : am_MI := (yX3_countClasses, cX3_countClasses, 4, (some .int), [])
def qX4_init : am_MI := (yX4_init, cX4_init, 4, none, [])
def qX4_forgetTruths : am_MI := (yX4_forgetTruths, cX4_forgetTruths, 1, none, [])
def qX4_dropFacts : am_MI := (yX4_dropFacts, cX4_dropFacts, 2, none, [])
def qX4_indexOfFact : am_MI := (yX4_indexOfFact, cX4_indexOfFact, 3, (some .int), [])
def qX4_exchangeFact : am_MI := (yX4_exchangeFact, cX4_exchangeFact, 7, (some .boolean), [])
def qX4_isTrue : am_MI := (yX4_isTrue, cX4_isTrue, 2, (some .boolean), [])
def qX4_holds : am_MI := (yX4_holds, cX4_holds, 3, (some .boolean), [])
def qX4_atomHolds : am_MI := (yX4_atomHolds, cX4_atomHolds, 5, (some .boolean), [])
def qX4_quantifierHolds : am_MI := (yX4_quantifierHolds, cX4_quantifierHolds, 7, (some .boolean), [])
def qX4_isEnough : am_MI := (yX4_isEnough, cX4_isEnough, 3, (some .boolean), [])
def qX5_init : am_MI := (yX5_init, cX5_init, 4, none, [])
def qX5_findReadings : am_MI := (yX5_findReadings, cX5_findReadings, 1, none, [])
def qX5_fillNext : am_MI := (yX5_fillNext, cX5_fillNext, 17, none, [])
def qX5_leavesNoneOut : am_MI := (yX5_leavesNoneOut, cX5_leavesNoneOut, 4, (some .boolean), [])
def qX5_welcomeUnder : am_MI := (yX5_welcomeUnder, cX5_welcomeUnder, 7, (some .int), [])
def qX5_missingIn : am_MI := (yX5_missingIn, cX5_missingIn, 5, (some .int), [])
def qX5_holesIn : am_MI := (yX5_holesIn, cX5_holesIn, 3, (some .int), [])
def qX5_openHoles : am_MI := (yX5_openHoles, cX5_openHoles, 6, (some .int), [])
def qX6_init : am_MI := (yX6_init, cX6_init, 1, none, [])
def qX6_append : am_MI := (yX6_append, cX6_append, 3, none, [])
def qX6_extend : am_MI := (yX6_extend, cX6_extend, 3, (some .long), [])
def qX6_find : am_MI := (yX6_find, cX6_find, 7, (some .int), [])
def qX7_init : am_MI := (yX7_init, cX7_init, 1, none, [])
def qX7_startOver : am_MI := (yX7_startOver, cX7_startOver, 3, none, [])
def qX7_takeOver : am_MI := (yX7_takeOver, cX7_takeOver, 2, none, [])
def qX7_copyRow : am_MI := (yX7_copyRow, cX7_copyRow, 2, none, [])
def qX7_addQuantifier : am_MI := (yX7_addQuantifier, cX7_addQuantifier, 3, none, [])
def qX7_addNegation : am_MI := (yX7_addNegation, cX7_addNegation, 1, none, [])
def qX7_addLeaf : am_MI := (yX7_addLeaf, cX7_addLeaf, 5, none, [])
def qX7_variableIn : am_MI := (yX7_variableIn, cX7_variableIn, 2, (some .int), [])
def qX7_predicateNamedBy : am_MI := (yX7_predicateNamedBy, cX7_predicateNamedBy, 3, (some .int), [])
def qX7_haveSameName : am_MI := (yX7_haveSameName, cX7_haveSameName, 5, (some .boolean), [])
def qX7_argumentsOf : am_MI := (yX7_argumentsOf, cX7_argumentsOf, 2, (some .int), [])
def qX7_holesOf : am_MI := (yX7_holesOf, cX7_holesOf, 2, (some .int), [])
def qX7_isQuantifier : am_MI := (yX7_isQuantifier, cX7_isQuantifier, 2, (some .boolean), [])
def qX7_contains : am_MI := (yX7_contains, cX7_contains, 3, (some .boolean), [])
def qX7_ownerOf : am_MI := (yX7_ownerOf, cX7_ownerOf, 2, (some .int), [])
def qX7_quantifierOf : am_MI := (yX7_quantifierOf, cX7_quantifierOf, 4, (some .int), [])
def qX7_findErrorOfUse : am_MI := (yX7_findErrorOfUse, cX7_findErrorOfUse, 3, (some .int), [])
def qX7_errorInQuantifier : am_MI := (yX7_errorInQuantifier, cX7_errorInQuantifier, 3, (some .int), [])
def qX7_errorInLeaf : am_MI := (yX7_errorInLeaf, cX7_errorInLeaf, 3, (some .int), [])
def qX8_init : am_MI := (yX8_init, cX8_init, 2, none, [])
def qX8_findErrorOfForm : am_MI := (yX8_findErrorOfForm, cX8_findErrorOfForm, 5, (some .int), [])
def qX8_takeItem : am_MI := (yX8_takeItem, cX8_takeItem, 4, (some .int), [])
def qX8_takeNegation : am_MI := (yX8_takeNegation, cX8_takeNegation, 1, (some .boolean), [])
def qX8_takeQuantifier : am_MI := (yX8_takeQuantifier, cX8_takeQuantifier, 4, (some .boolean), [])
def qX8_takeArguments : am_MI := (yX8_takeArguments, cX8_takeArguments, 3, (some .boolean), [])
def qX8_takeName : am_MI := (yX8_takeName, cX8_takeName, 3, (some .boolean), [])
def qX8_takeVariable : am_MI := (yX8_takeVariable, cX8_takeVariable, 1, (some .boolean), [])
def qX8_takeSign : am_MI := (yX8_takeSign, cX8_takeSign, 2, (some .boolean), [])
def qX8_sign : am_MI := (yX8_sign, cX8_sign, 1, (some .int), [])
def qX8_isFrom : am_MI := (yX8_isFrom, cX8_isFrom, 2, (some .boolean), [])
def qX8_kindOfWord : am_MI := (yX8_kindOfWord, cX8_kindOfWord, 3, (some .int), [])
def qX8_isWord : am_MI := (yX8_isWord, cX8_isWord, 4, (some .boolean), [])
def qX9_init : am_MI := (yX9_init, cX9_init, 1, none, [])
def qX9_type : am_MI := (yX9_type, cX9_type, 2, (some .int), [])
def qX9_clearText : am_MI := (yX9_clearText, cX9_clearText, 2, (some .int), [])
def qX9_readSentence : am_MI := (yX9_readSentence, cX9_readSentence, 2, (some .int), [])
def qX9_errorKind : am_MI := (yX9_errorKind, cX9_errorKind, 1, (some .int), [])
def qX9_fragments : am_MI := (yX9_fragments, cX9_fragments, 1, (some .int), [])
def qX9_kindOf : am_MI := (yX9_kindOf, cX9_kindOf, 2, (some .int), [])
def qX9_hasEdge : am_MI := (yX9_hasEdge, cX9_hasEdge, 4, (some .boolean), [])
def qX9_constrain : am_MI := (yX9_constrain, cX9_constrain, 4, (some .int), [])
def qX9_release : am_MI := (yX9_release, cX9_release, 1, (some .int), [])
def qX9_readings : am_MI := (yX9_readings, cX9_readings, 1, (some .int), [])
def qX9_place : am_MI := (yX9_place, cX9_place, 3, (some .int), [])
def qX9_plug : am_MI := (yX9_plug, cX9_plug, 4, (some .int), [])
def qX9_above : am_MI := (yX9_above, cX9_above, 3, (some .int), [])
def qX9_polarity : am_MI := (yX9_polarity, cX9_polarity, 3, (some .int), [])
def qX9_countBelow : am_MI := (yX9_countBelow, cX9_countBelow, 5, (some .int), [])
def qX9_nextBelow : am_MI := (yX9_nextBelow, cX9_nextBelow, 5, (some .int), [])
def qX9_formulaChar : am_MI := (yX9_formulaChar, cX9_formulaChar, 3, (some .int), [])
def qX9_entails : am_MI := (yX9_entails, cX9_entails, 3, (some .boolean), [])
def qX9_classOf : am_MI := (yX9_classOf, cX9_classOf, 2, (some .int), [])
def qX9_classes : am_MI := (yX9_classes, cX9_classes, 1, (some .int), [])
def qX9_isWeak : am_MI := (yX9_isWeak, cX9_isWeak, 2, (some .boolean), [])
def qX9_strongest : am_MI := (yX9_strongest, cX9_strongest, 1, (some .int), [])
def qX9_setDomain : am_MI := (yX9_setDomain, cX9_setDomain, 3, (some .int), [])
def qX9_predicates : am_MI := (yX9_predicates, cX9_predicates, 1, (some .int), [])
def qX9_arity : am_MI := (yX9_arity, cX9_arity, 2, (some .int), [])
def qX9_setFact : am_MI := (yX9_setFact, cX9_setFact, 6, (some .boolean), [])
def qX9_truth : am_MI := (yX9_truth, cX9_truth, 2, (some .boolean), [])
def qX9_trueReadings : am_MI := (yX9_trueReadings, cX9_trueReadings, 3, (some .int), [])
def qX9_nextDifferent : am_MI := (yX9_nextDifferent, cX9_nextDifferent, 3, (some .int), [])
def qX9_fingerprint : am_MI := (yX9_fingerprint, cX9_fingerprint, 5, (some .long), [])
def qX9_listReadings : am_MI := (yX9_listReadings, cX9_listReadings, 1, none, [])
def qX9_layOut : am_MI := (yX9_layOut, cX9_layOut, 2, none, [])
def qX9_needSentence : am_MI := (yX9_needSentence, cX9_needSentence, 1, none, [])
def qX9_needFragment : am_MI := (yX9_needFragment, cX9_needFragment, 2, none, [])
def qX9_needHole : am_MI := (yX9_needHole, cX9_needHole, 3, none, [])
def qX9_needReading : am_MI := (yX9_needReading, cX9_needReading, 2, none, [])
def qX9_needPredicate : am_MI := (yX9_needPredicate, cX9_needPredicate, 2, none, [])
def qX9_needStart : am_MI := (yX9_needStart, cX9_needStart, 2, none, [])
def qX9_isIn : am_MI := (yX9_isIn, cX9_isIn, 2, (some .boolean), [])
def qX9_wordOf : am_MI := (yX9_wordOf, cX9_wordOf, 1, (some (.object "java/lang/String")), [])
def qX10_init : am_MI := (yX10_init, cX10_init, 1, none, [])
def qX10_thrown : am_MI := (yX10_thrown, cX10_thrown, 1, (some .int), [])
def qX10_in : am_MI := (yX10_in, cX10_in, 3, (some .boolean), [])
def qX10_fails : am_MI := (yX10_fails, cX10_fails, 2, (some .int), [])
def qX10_type : am_MI := (yX10_type, cX10_type, 2, (some .int), [])
def qX10_clearText : am_MI := (yX10_clearText, cX10_clearText, 2, (some .int), [])
def qX10_letter : am_MI := (yX10_letter, cX10_letter, 2, (some .int), [])
def qX10_isLetter : am_MI := (yX10_isLetter, cX10_isLetter, 2, (some .boolean), [])
def qX10_isVariable : am_MI := (yX10_isVariable, cX10_isVariable, 2, (some .boolean), [])
def qX10_wordAt : am_MI := (yX10_wordAt, cX10_wordAt, 8, (some .int), [])
def qX10_passesLetters : am_MI := (yX10_passesLetters, cX10_passesLetters, 2, none, [])
def qX10_readsRest : am_MI := (yX10_readsRest, cX10_readsRest, 3, (some .boolean), [])
def qX10_readsQuantifier : am_MI := (yX10_readsQuantifier, cX10_readsQuantifier, 3, (some .boolean), [])
def qX10_hasForm : am_MI := (yX10_hasForm, cX10_hasForm, 4, (some .boolean), [])
def qX10_endOfName : am_MI := (yX10_endOfName, cX10_endOfName, 3, (some .int), [])
def qX10_haveOneName : am_MI := (yX10_haveOneName, cX10_haveOneName, 7, (some .boolean), [])
def qX10_quantifierOf : am_MI := (yX10_quantifierOf, cX10_quantifierOf, 3, (some .int), [])
def qX10_finds : am_MI := (yX10_finds, cX10_finds, 3, none, [])
def qX10_secondError : am_MI := (yX10_secondError, cX10_secondError, 4, (some .int), [])
def qX10_readSentence : am_MI := (yX10_readSentence, cX10_readSentence, 3, (some .int), [])
def qX10_takes : am_MI := (yX10_takes, cX10_takes, 3, none, [])
def qX10_errorKind : am_MI := (yX10_errorKind, cX10_errorKind, 1, (some .int), [])
def qX10_holesOf : am_MI := (yX10_holesOf, cX10_holesOf, 2, (some .int), [])
def qX10_isQuantifier : am_MI := (yX10_isQuantifier, cX10_isQuantifier, 2, (some .boolean), [])
def qX10_leads : am_MI := (yX10_leads, cX10_leads, 3, none, [])
def qX10_laysEdges : am_MI := (yX10_laysEdges, cX10_laysEdges, 5, none, [])
def qX10_isFragment : am_MI := (yX10_isFragment, cX10_isFragment, 2, (some .boolean), [])
def qX10_isHole : am_MI := (yX10_isHole, cX10_isHole, 3, (some .boolean), [])
def qX10_fragments : am_MI := (yX10_fragments, cX10_fragments, 1, (some .int), [])
def qX10_kindOf : am_MI := (yX10_kindOf, cX10_kindOf, 2, (some .int), [])
def qX10_hasEdge : am_MI := (yX10_hasEdge, cX10_hasEdge, 4, (some .boolean), [])
def qX10_constrain : am_MI := (yX10_constrain, cX10_constrain, 4, (some .int), [])
def qX10_release : am_MI := (yX10_release, cX10_release, 1, (some .int), [])
def qX10_opens : am_MI := (yX10_opens, cX10_opens, 5, none, [])
def qX10_isAbove : am_MI := (yX10_isAbove, cX10_isAbove, 5, (some .boolean), [])
def qX10_isOnPile : am_MI := (yX10_isOnPile, cX10_isOnPile, 4, (some .boolean), [])
def qX10_mayStand : am_MI := (yX10_mayStand, cX10_mayStand, 5, (some .boolean), [])
def qX10_isUsed : am_MI := (yX10_isUsed, cX10_isUsed, 5, (some .boolean), [])
def qX10_keepsReading : am_MI := (yX10_keepsReading, cX10_keepsReading, 2, none, [])
def qX10_lists : am_MI := (yX10_lists, cX10_lists, 2, none, [])
def qX10_isReading : am_MI := (yX10_isReading, cX10_isReading, 2, (some .boolean), [])
def qX10_lacksSentence : am_MI := (yX10_lacksSentence, cX10_lacksSentence, 2, (some .boolean), [])
def qX10_readings : am_MI := (yX10_readings, cX10_readings, 1, (some .int), [])
def qX10_place : am_MI := (yX10_place, cX10_place, 3, (some .int), [])
def qX10_plug : am_MI := (yX10_plug, cX10_plug, 4, (some .int), [])
def qX10_holeIn : am_MI := (yX10_holeIn, cX10_holeIn, 5, (some .int), [])
def qX10_upperOf : am_MI := (yX10_upperOf, cX10_upperOf, 4, (some .int), [])
def qX10_above : am_MI := (yX10_above, cX10_above, 3, (some .int), [])
def qX10_polarityOf : am_MI := (yX10_polarityOf, cX10_polarityOf, 7, (some .int), [])
def qX10_polarity : am_MI := (yX10_polarity, cX10_polarity, 3, (some .int), [])
def qX10_isBelow : am_MI := (yX10_isBelow, cX10_isBelow, 5, (some .boolean), [])
def qX10_countBelow : am_MI := (yX10_countBelow, cX10_countBelow, 5, (some .int), [])
def qX10_nextBelow : am_MI := (yX10_nextBelow, cX10_nextBelow, 5, (some .int), [])
def qX10_tells : am_MI := (yX10_tells, cX10_tells, 2, none, [])
def qX10_tellsHead : am_MI := (yX10_tellsHead, cX10_tellsHead, 5, none, [])
def qX10_tellsReading : am_MI := (yX10_tellsReading, cX10_tellsReading, 8, none, [])
def qX10_formulaChar : am_MI := (yX10_formulaChar, cX10_formulaChar, 3, (some .int), [])
def qX10_findsSwapped : am_MI := (yX10_findsSwapped, cX10_findsSwapped, 5, (some .int), [])
def qX10_swaps : am_MI := (yX10_swaps, cX10_swaps, 5, none, [])
def qX10_isStep : am_MI := (yX10_isStep, cX10_isStep, 7, (some .boolean), [])
def qX10_findsSteps : am_MI := (yX10_findsSteps, cX10_findsSteps, 5, none, [])
def qX10_goesFrom : am_MI := (yX10_goesFrom, cX10_goesFrom, 7, none, [])
def qX10_comesFrom : am_MI := (yX10_comesFrom, cX10_comesFrom, 8, none, [])
def qX10_sorts : am_MI := (yX10_sorts, cX10_sorts, 3, none, [])
def qX10_entails : am_MI := (yX10_entails, cX10_entails, 3, (some .boolean), [])
def qX10_classOf : am_MI := (yX10_classOf, cX10_classOf, 2, (some .int), [])
def qX10_classes : am_MI := (yX10_classes, cX10_classes, 3, (some .int), [])
def qX10_isWeak : am_MI := (yX10_isWeak, cX10_isWeak, 2, (some .boolean), [])
def qX10_strongest : am_MI := (yX10_strongest, cX10_strongest, 3, (some .int), [])
def qX10_forgets : am_MI := (yX10_forgets, cX10_forgets, 2, none, [])
def qX10_setDomain : am_MI := (yX10_setDomain, cX10_setDomain, 3, (some .int), [])
def qX10_predicates : am_MI := (yX10_predicates, cX10_predicates, 1, (some .int), [])
def qX10_arity : am_MI := (yX10_arity, cX10_arity, 2, (some .int), [])
def qX10_setFact : am_MI := (yX10_setFact, cX10_setFact, 7, (some .boolean), [])
def qX10_weightOf : am_MI := (yX10_weightOf, cX10_weightOf, 4, (some .int), [])
def qX10_isFact : am_MI := (yX10_isFact, cX10_isFact, 5, (some .boolean), [])
def qX10_holds : am_MI := (yX10_holds, cX10_holds, 12, (some .boolean), [])
def qX10_truthOf : am_MI := (yX10_truthOf, cX10_truthOf, 5, (some .boolean), [])
def qX10_truth : am_MI := (yX10_truth, cX10_truth, 2, (some .boolean), [])
def qX10_trueReadings : am_MI := (yX10_trueReadings, cX10_trueReadings, 3, (some .int), [])
def qX10_nextDifferent : am_MI := (yX10_nextDifferent, cX10_nextDifferent, 3, (some .int), [])
def qX10_fingerprint : am_MI := (yX10_fingerprint, cX10_fingerprint, 5, (some .long), [])
def qL_type : am_MI := (yL_type, cL_type, 4, (some .int), [(0, 9, 12, 13), (0, 9, 15, 15)])
def qL_kindOf : am_MI := (yL_kindOf, cL_kindOf, 4, (some .int), [(0, 9, 12, 20)])
def qL_hasEdge : am_MI := (yL_hasEdge, cL_hasEdge, 6, (some .int), [(0, 19, 22, 20)])
def qL_constrain : am_MI := (yL_constrain, cL_constrain, 6, (some .int), [(0, 12, 15, 20), (0, 12, 19, 15)])
def qL_release : am_MI := (yL_release, cL_release, 3, (some .int), [(0, 8, 11, 15)])
def qL_readings : am_MI := (yL_readings, cL_readings, 3, (some .int), [(0, 8, 11, 15)])
def qL_place : am_MI := (yL_place, cL_place, 5, (some .int), [(0, 10, 13, 20)])
def qL_plug : am_MI := (yL_plug, cL_plug, 6, (some .int), [(0, 12, 15, 20)])
def qL_above : am_MI := (yL_above, cL_above, 5, (some .int), [(0, 10, 13, 20)])
def qL_polarity : am_MI := (yL_polarity, cL_polarity, 5, (some .int), [(0, 10, 13, 20)])
def qL_countBelow : am_MI := (yL_countBelow, cL_countBelow, 5, (some .int), [(0, 10, 13, 20)])
def qL_nextBelow : am_MI := (yL_nextBelow, cL_nextBelow, 6, (some .int), [(0, 12, 15, 20)])
def qL_formulaChar : am_MI := (yL_formulaChar, cL_formulaChar, 5, (some .int), [(0, 10, 13, 20)])
def qL_entails : am_MI := (yL_entails, cL_entails, 5, (some .int), [(0, 17, 20, 20)])
def qL_classOf : am_MI := (yL_classOf, cL_classOf, 4, (some .int), [(0, 9, 12, 20)])
def qL_classes : am_MI := (yL_classes, cL_classes, 3, (some .int), [(0, 8, 11, 15)])
def qL_isWeak : am_MI := (yL_isWeak, cL_isWeak, 4, (some .int), [(0, 16, 19, 20)])
def qL_strongest : am_MI := (yL_strongest, cL_strongest, 3, (some .int), [(0, 8, 11, 15)])
def qL_setDomain : am_MI := (yL_setDomain, cL_setDomain, 4, (some .int), [(0, 9, 12, 13)])
def qL_arity : am_MI := (yL_arity, cL_arity, 4, (some .int), [(0, 9, 12, 20)])
def qL_setFact : am_MI := (yL_setFact, cL_setFact, 7, (some .int), [(0, 21, 24, 20), (0, 21, 28, 13)])
def qL_truth : am_MI := (yL_truth, cL_truth, 4, (some .int), [(0, 16, 19, 20)])
def qL_trueReadings : am_MI := (yL_trueReadings, cL_trueReadings, 3, (some .int), [(0, 8, 11, 15)])
def qL_nextDifferent : am_MI := (yL_nextDifferent, cL_nextDifferent, 4, (some .int), [(0, 9, 12, 15), (0, 9, 15, 20)])
def qJ0_length_8abf5 : am_MI := (yJ0_length_8abf5, cJ0_length_8abf5, 1, (some .int), [])
def qJ0_charAt_5068e : am_MI := (yJ0_charAt_5068e, cJ0_charAt_5068e, 2, (some .char), [])
def qJ0_coder_7d493 : am_MI := (yJ0_coder_7d493, cJ0_coder_7d493, 1, (some .byte), [])
def qJ0_isLatin1_aae02 : am_MI := (yJ0_isLatin1_aae02, cJ0_isLatin1_aae02, 1, (some .boolean), [])
def qJ0_checkIndex_df160 : am_MI := (yJ0_checkIndex_df160, cJ0_checkIndex_df160, 2, none, [])
def qJ1_charAt_3b067 : am_MI := (yJ1_charAt_3b067, cJ1_charAt_3b067, 2, (some .char), [])
def qJ2_getChar_3b067 : am_MI := (yJ2_getChar_3b067, cJ2_getChar_3b067, 2, (some .char), [])
def qJ2_length_9d52b : am_MI := (yJ2_length_9d52b, cJ2_length_9d52b, 1, (some .int), [])
def qJ2_charAt_3b067 : am_MI := (yJ2_charAt_3b067, cJ2_charAt_3b067, 2, (some .char), [])
def qJ2_checkIndex_2214a : am_MI := (yJ2_checkIndex_2214a, cJ2_checkIndex_2214a, 2, none, [])
def qJ7_fill_53178 : am_MI := (yJ7_fill_53178, cJ7_fill_53178, 4, none, [])
def qJ3_checkIndex_8e157 : am_MI := (yJ3_checkIndex_8e157, cJ3_checkIndex_8e157, 3, (some .int), [])
def am_mt : List am_MI := [qX0_init, qX0_drawSentence, qX0_leavesOf, qX0_addConstraint, qX0_dropLastConstraint, qX0_targetsOf, qX0_wantedUnder, qX0_drawConclusions, qX0_holesThatWant, qX0_contradictsItself, qX1_init, qX1_writeFormula, qX1_writeFragment, qX1_writeAtom, qX1_writeWord, qX1_writeSign, qX2_init, qX2_lay, qX2_putIn, qX2_polarityIn, qX2_parentOf, qX2_isUnder, qX2_orderAfterSwap, qX2_extendBy, qX3_init, qX3_forget, qX3_workOut, qX3_findSteps, qX3_isEveryOrSome, qX3_noteSwap, qX3_isStrongOnTop, qX3_formClass, qX3_spread, qX3_leadsTo, qX3_countClasses, qX4_init, qX4_forgetTruths, qX4_dropFacts, qX4_indexOfFact, qX4_exchangeFact, qX4_isTrue, qX4_holds, qX4_atomHolds, qX4_quantifierHolds, qX4_isEnough, qX5_init, qX5_findReadings, qX5_fillNext, qX5_leavesNoneOut, qX5_welcomeUnder, qX5_missingIn, qX5_holesIn, qX5_openHoles, qX6_init, qX6_append, qX6_extend, qX6_find, qX7_init, qX7_startOver, qX7_takeOver, qX7_copyRow, qX7_addQuantifier, qX7_addNegation, qX7_addLeaf, qX7_variableIn, qX7_predicateNamedBy, qX7_haveSameName, qX7_argumentsOf, qX7_holesOf, qX7_isQuantifier, qX7_contains, qX7_ownerOf, qX7_quantifierOf, qX7_findErrorOfUse, qX7_errorInQuantifier, qX7_errorInLeaf, qX8_init, qX8_findErrorOfForm, qX8_takeItem, qX8_takeNegation, qX8_takeQuantifier, qX8_takeArguments, qX8_takeName, qX8_takeVariable, qX8_takeSign, qX8_sign, qX8_isFrom, qX8_kindOfWord, qX8_isWord, qX9_init, qX9_type, qX9_clearText, qX9_readSentence, qX9_errorKind, qX9_fragments, qX9_kindOf, qX9_hasEdge, qX9_constrain, qX9_release, qX9_readings, qX9_place, qX9_plug, qX9_above, qX9_polarity, qX9_countBelow, qX9_nextBelow, qX9_formulaChar, qX9_entails, qX9_classOf, qX9_classes, qX9_isWeak, qX9_strongest, qX9_setDomain, qX9_predicates, qX9_arity, qX9_setFact, qX9_truth, qX9_trueReadings, qX9_nextDifferent, qX9_fingerprint, qX9_listReadings, qX9_layOut, qX9_needSentence, qX9_needFragment, qX9_needHole, qX9_needReading, qX9_needPredicate, qX9_needStart, qX9_isIn, qX9_wordOf, qX10_init, qX10_thrown, qX10_in, qX10_fails, qX10_type, qX10_clearText, qX10_letter, qX10_isLetter, qX10_isVariable, qX10_wordAt, qX10_passesLetters, qX10_readsRest, qX10_readsQuantifier, qX10_hasForm, qX10_endOfName, qX10_haveOneName, qX10_quantifierOf, qX10_finds, qX10_secondError, qX10_readSentence, qX10_takes, qX10_errorKind, qX10_holesOf, qX10_isQuantifier, qX10_leads, qX10_laysEdges, qX10_isFragment, qX10_isHole, qX10_fragments, qX10_kindOf, qX10_hasEdge, qX10_constrain, qX10_release, qX10_opens, qX10_isAbove, qX10_isOnPile, qX10_mayStand, qX10_isUsed, qX10_keepsReading, qX10_lists, qX10_isReading, qX10_lacksSentence, qX10_readings, qX10_place, qX10_plug, qX10_holeIn, qX10_upperOf, qX10_above, qX10_polarityOf, qX10_polarity, qX10_isBelow, qX10_countBelow, qX10_nextBelow, qX10_tells, qX10_tellsHead, qX10_tellsReading, qX10_formulaChar, qX10_findsSwapped, qX10_swaps, qX10_isStep, qX10_findsSteps, qX10_goesFrom, qX10_comesFrom, qX10_sorts, qX10_entails, qX10_classOf, qX10_classes, qX10_isWeak, qX10_strongest, qX10_forgets, qX10_setDomain, qX10_predicates, qX10_arity, qX10_setFact, qX10_weightOf, qX10_isFact, qX10_holds, qX10_truthOf, qX10_truth, qX10_trueReadings, qX10_nextDifferent, qX10_fingerprint, qL_type, qL_kindOf, qL_hasEdge, qL_constrain, qL_release, qL_readings, qL_place, qL_plug, qL_above, qL_polarity, qL_countBelow, qL_nextBelow, qL_formulaChar, qL_entails, qL_classOf, qL_classes, qL_isWeak, qL_strongest, qL_setDomain, qL_arity, qL_setFact, qL_truth, qL_trueReadings, qL_nextDifferent, qJ0_length_8abf5, qJ0_charAt_5068e, qJ0_coder_7d493, qJ0_isLatin1_aae02, qJ0_checkIndex_df160, qJ1_charAt_3b067, qJ2_getChar_3b067, qJ2_length_9d52b, qJ2_charAt_3b067, qJ2_checkIndex_2214a, qJ7_fill_53178, qJ3_checkIndex_8e157]
def am_df : Nat → List (Option (Option Nat)) := fun ci => match ci with
  | 0 => [some none, some none, none, some none, some none, some none, some none]
  | 1 => [some none, some none, some none, none]
  | 2 => [some none, some none, some none, some none, some none, some none, some none]
  | 3 => [some none, some none, some none, none, some none, some none, some none, some none, some none, some none, some none, none]
  | 4 => [some none, some none, some none, none, some none, some none, some none]
  | 5 => [some none, some none, some none, some none]
  | 6 => [some none, none]
  | 7 => [some none, none, some none, some none, some none, some none, some none, some none, some none, some none, some none, none, some none, some none]
  | 8 => [some none, none, none, none, none]
  | 9 => [some none, none, none, some none, some none, some none, some none, some none, some none, some none, some none, some none, some none]
  | 10 => [none, some none, none, none, none, none, none, none, none, some none, some none, some none, some none, some none, some none, none, none, some none, some none, some none, some none, some none, some none, none, some none, some none, none, some none, some none, none, some none, some none, none, some none, some none, some none, some none, none, some none, none, some none, some none, some none, some none, some none, some none, some none, some none, none, some none, some none]
  | _ => []
theorem am_ini_ScopeLister : Cond.initialized "ScopeLister" ∈ am_T := (am_T_in (i := 133) (by decide +kernel) rfl)
theorem am_ini_ScopeLister_DominanceGraph : Cond.initialized "ScopeLister$DominanceGraph" ∈ am_T := (am_T_in (i := 136) (by decide +kernel) rfl)
theorem am_ini_ScopeLister_FormulaWriter : Cond.initialized "ScopeLister$FormulaWriter" ∈ am_T := (am_T_in (i := 142) (by decide +kernel) rfl)
theorem am_ini_ScopeLister_Layout : Cond.initialized "ScopeLister$Layout" ∈ am_T := (am_T_in (i := 139) (by decide +kernel) rfl)
theorem am_ini_ScopeLister_Meaning : Cond.initialized "ScopeLister$Meaning" ∈ am_T := (am_T_in (i := 140) (by decide +kernel) rfl)
theorem am_ini_ScopeLister_Model : Cond.initialized "ScopeLister$Model" ∈ am_T := (am_T_in (i := 141) (by decide +kernel) rfl)
theorem am_ini_ScopeLister_ReadingFinder : Cond.initialized "ScopeLister$ReadingFinder" ∈ am_T := (am_T_in (i := 138) (by decide +kernel) rfl)
theorem am_ini_ScopeLister_ReadingList : Cond.initialized "ScopeLister$ReadingList" ∈ am_T := (am_T_in (i := 137) (by decide +kernel) rfl)
theorem am_ini_ScopeLister_Sentence : Cond.initialized "ScopeLister$Sentence" ∈ am_T := (am_T_in (i := 134) (by decide +kernel) rfl)
theorem am_ini_ScopeLister_SentenceParser : Cond.initialized "ScopeLister$SentenceParser" ∈ am_T := (am_T_in (i := 135) (by decide +kernel) rfl)
theorem am_ini_ScopeListerLaw : Cond.initialized "ScopeListerLaw" ∈ am_T := (am_T_in (i := 132) (by decide +kernel) rfl)
theorem am_ini_ScopeListerModel : Cond.initialized "ScopeListerModel" ∈ am_T := (am_T_in (i := 143) (by decide +kernel) rfl)
theorem am_ini_java_lang_String : Cond.initialized "java/lang/String" ∈ am_T := (am_T_in (i := 150) (by decide +kernel) rfl)
theorem am_ini_java_lang_StringLatin1 : Cond.initialized "java/lang/StringLatin1" ∈ am_T := (am_T_in (i := 151) (by decide +kernel) rfl)
theorem am_ini_java_lang_StringUTF16 : Cond.initialized "java/lang/StringUTF16" ∈ am_T := (am_T_in (i := 153) (by decide +kernel) rfl)
theorem am_ini_java_lang_System : Cond.initialized "java/lang/System" ∈ am_T := (am_T_in (i := 149) (by decide +kernel) rfl)
theorem am_ini_java_util_Arrays : Cond.initialized "java/util/Arrays" ∈ am_T := (am_T_in (i := 154) (by decide +kernel) rfl)
theorem am_ini_jdk_internal_util_Preconditions : Cond.initialized "jdk/internal/util/Preconditions" ∈ am_T := (am_T_in (i := 152) (by decide +kernel) rfl)
theorem oX0_init : am_mok qX0_init 1 := ⟨(am_T_in (i := 264) (by decide +kernel) rfl), am_ini_ScopeLister_DominanceGraph, by decide +kernel, by decide⟩
theorem iX0_init : Cond.instanceMethod yX0_init ∈ am_T := (am_T_in (i := 263) (by decide +kernel) rfl)
theorem oX0_drawSentence : am_mok qX0_drawSentence 0 := ⟨(am_T_in (i := 693) (by decide +kernel) rfl), am_ini_ScopeLister_DominanceGraph, by decide +kernel, by decide⟩
theorem iX0_drawSentence : Cond.instanceMethod yX0_drawSentence ∈ am_T := (am_T_in (i := 692) (by decide +kernel) rfl)
theorem sX0_drawSentence : Cond.selects yX0_drawSentence.cls yX0_drawSentence yX0_drawSentence ∈ am_T := (am_T_in (i := 28) (by decide +kernel) rfl)
theorem oX0_leavesOf : am_mok qX0_leavesOf 2 := ⟨(am_T_in (i := 701) (by decide +kernel) rfl), am_ini_ScopeLister_DominanceGraph, by decide +kernel, by decide⟩
theorem iX0_leavesOf : Cond.instanceMethod yX0_leavesOf ∈ am_T := (am_T_in (i := 700) (by decide +kernel) rfl)
theorem sX0_leavesOf : Cond.selects yX0_leavesOf.cls yX0_leavesOf yX0_leavesOf ∈ am_T := (am_T_in (i := 29) (by decide +kernel) rfl)
theorem oX0_addConstraint : am_mok qX0_addConstraint 2 := ⟨(am_T_in (i := 1025) (by decide +kernel) rfl), am_ini_ScopeLister_DominanceGraph, by decide +kernel, by decide⟩
theorem iX0_addConstraint : Cond.instanceMethod yX0_addConstraint ∈ am_T := (am_T_in (i := 1024) (by decide +kernel) rfl)
theorem sX0_addConstraint : Cond.selects yX0_addConstraint.cls yX0_addConstraint yX0_addConstraint ∈ am_T := (am_T_in (i := 66) (by decide +kernel) rfl)
theorem oX0_dropLastConstraint : am_mok qX0_dropLastConstraint 0 := ⟨(am_T_in (i := 1037) (by decide +kernel) rfl), am_ini_ScopeLister_DominanceGraph, by decide +kernel, by decide⟩
theorem iX0_dropLastConstraint : Cond.instanceMethod yX0_dropLastConstraint ∈ am_T := (am_T_in (i := 1036) (by decide +kernel) rfl)
theorem sX0_dropLastConstraint : Cond.selects yX0_dropLastConstraint.cls yX0_dropLastConstraint yX0_dropLastConstraint ∈ am_T := (am_T_in (i := 67) (by decide +kernel) rfl)
theorem oX0_targetsOf : am_mok qX0_targetsOf 1 := ⟨(am_T_in (i := 727) (by decide +kernel) rfl), am_ini_ScopeLister_DominanceGraph, by decide +kernel, by decide⟩
theorem iX0_targetsOf : Cond.instanceMethod yX0_targetsOf ∈ am_T := (am_T_in (i := 726) (by decide +kernel) rfl)
theorem sX0_targetsOf : Cond.selects yX0_targetsOf.cls yX0_targetsOf yX0_targetsOf ∈ am_T := (am_T_in (i := 35) (by decide +kernel) rfl)
theorem oX0_wantedUnder : am_mok qX0_wantedUnder 1 := ⟨(am_T_in (i := 734) (by decide +kernel) rfl), am_ini_ScopeLister_DominanceGraph, by decide +kernel, by decide⟩
theorem iX0_wantedUnder : Cond.instanceMethod yX0_wantedUnder ∈ am_T := (am_T_in (i := 733) (by decide +kernel) rfl)
theorem sX0_wantedUnder : Cond.selects yX0_wantedUnder.cls yX0_wantedUnder yX0_wantedUnder ∈ am_T := (am_T_in (i := 36) (by decide +kernel) rfl)
theorem oX0_drawConclusions : am_mok qX0_drawConclusions 0 := ⟨(am_T_in (i := 723) (by decide +kernel) rfl), am_ini_ScopeLister_DominanceGraph, by decide +kernel, by decide⟩
theorem iX0_drawConclusions : Cond.instanceMethod yX0_drawConclusions ∈ am_T := (am_T_in (i := 722) (by decide +kernel) rfl)
theorem sX0_drawConclusions : Cond.selects yX0_drawConclusions.cls yX0_drawConclusions yX0_drawConclusions ∈ am_T := (am_T_in (i := 34) (by decide +kernel) rfl)
theorem oX0_holesThatWant : am_mok qX0_holesThatWant 2 := ⟨(am_T_in (i := 738) (by decide +kernel) rfl), am_ini_ScopeLister_DominanceGraph, by decide +kernel, by decide⟩
theorem iX0_holesThatWant : Cond.instanceMethod yX0_holesThatWant ∈ am_T := (am_T_in (i := 737) (by decide +kernel) rfl)
theorem sX0_holesThatWant : Cond.selects yX0_holesThatWant.cls yX0_holesThatWant yX0_holesThatWant ∈ am_T := (am_T_in (i := 37) (by decide +kernel) rfl)
theorem oX0_contradictsItself : am_mok qX0_contradictsItself 0 := ⟨(am_T_in (i := 742) (by decide +kernel) rfl), am_ini_ScopeLister_DominanceGraph, by decide +kernel, by decide⟩
theorem iX0_contradictsItself : Cond.instanceMethod yX0_contradictsItself ∈ am_T := (am_T_in (i := 741) (by decide +kernel) rfl)
theorem sX0_contradictsItself : Cond.selects yX0_contradictsItself.cls yX0_contradictsItself yX0_contradictsItself ∈ am_T := (am_T_in (i := 38) (by decide +kernel) rfl)
theorem oX1_init : am_mok qX1_init 2 := ⟨(am_T_in (i := 445) (by decide +kernel) rfl), am_ini_ScopeLister_FormulaWriter, by decide +kernel, by decide⟩
theorem iX1_init : Cond.instanceMethod yX1_init ∈ am_T := (am_T_in (i := 444) (by decide +kernel) rfl)
theorem oX1_writeFormula : am_mok qX1_writeFormula 0 := ⟨(am_T_in (i := 1127) (by decide +kernel) rfl), am_ini_ScopeLister_FormulaWriter, by decide +kernel, by decide⟩
theorem iX1_writeFormula : Cond.instanceMethod yX1_writeFormula ∈ am_T := (am_T_in (i := 1126) (by decide +kernel) rfl)
theorem sX1_writeFormula : Cond.selects yX1_writeFormula.cls yX1_writeFormula yX1_writeFormula ∈ am_T := (am_T_in (i := 74) (by decide +kernel) rfl)
theorem oX1_writeFragment : am_mok qX1_writeFragment 2 := ⟨(am_T_in (i := 1131) (by decide +kernel) rfl), am_ini_ScopeLister_FormulaWriter, by decide +kernel, by decide⟩
theorem iX1_writeFragment : Cond.instanceMethod yX1_writeFragment ∈ am_T := (am_T_in (i := 1130) (by decide +kernel) rfl)
theorem sX1_writeFragment : Cond.selects yX1_writeFragment.cls yX1_writeFragment yX1_writeFragment ∈ am_T := (am_T_in (i := 75) (by decide +kernel) rfl)
theorem oX1_writeAtom : am_mok qX1_writeAtom 1 := ⟨(am_T_in (i := 1136) (by decide +kernel) rfl), am_ini_ScopeLister_FormulaWriter, by decide +kernel, by decide⟩
theorem iX1_writeAtom : Cond.instanceMethod yX1_writeAtom ∈ am_T := (am_T_in (i := 1135) (by decide +kernel) rfl)
theorem sX1_writeAtom : Cond.selects yX1_writeAtom.cls yX1_writeAtom yX1_writeAtom ∈ am_T := (am_T_in (i := 76) (by decide +kernel) rfl)
theorem oX1_writeWord : am_mok qX1_writeWord 1 := ⟨(am_T_in (i := 1145) (by decide +kernel) rfl), am_ini_ScopeLister_FormulaWriter, by decide +kernel, by decide⟩
theorem iX1_writeWord : Cond.instanceMethod yX1_writeWord ∈ am_T := (am_T_in (i := 1144) (by decide +kernel) rfl)
theorem sX1_writeWord : Cond.selects yX1_writeWord.cls yX1_writeWord yX1_writeWord ∈ am_T := (am_T_in (i := 78) (by decide +kernel) rfl)
theorem oX1_writeSign : am_mok qX1_writeSign 1 := ⟨(am_T_in (i := 1140) (by decide +kernel) rfl), am_ini_ScopeLister_FormulaWriter, by decide +kernel, by decide⟩
theorem iX1_writeSign : Cond.instanceMethod yX1_writeSign ∈ am_T := (am_T_in (i := 1139) (by decide +kernel) rfl)
theorem sX1_writeSign : Cond.selects yX1_writeSign.cls yX1_writeSign yX1_writeSign ∈ am_T := (am_T_in (i := 77) (by decide +kernel) rfl)
theorem oX2_init : am_mok qX2_init 1 := ⟨(am_T_in (i := 333) (by decide +kernel) rfl), am_ini_ScopeLister_Layout, by decide +kernel, by decide⟩
theorem iX2_init : Cond.instanceMethod yX2_init ∈ am_T := (am_T_in (i := 332) (by decide +kernel) rfl)
theorem oX2_lay : am_mok qX2_lay 1 := ⟨(am_T_in (i := 811) (by decide +kernel) rfl), am_ini_ScopeLister_Layout, by decide +kernel, by decide⟩
theorem iX2_lay : Cond.instanceMethod yX2_lay ∈ am_T := (am_T_in (i := 810) (by decide +kernel) rfl)
theorem sX2_lay : Cond.selects yX2_lay.cls yX2_lay yX2_lay ∈ am_T := (am_T_in (i := 49) (by decide +kernel) rfl)
theorem oX2_putIn : am_mok qX2_putIn 2 := ⟨(am_T_in (i := 815) (by decide +kernel) rfl), am_ini_ScopeLister_Layout, by decide +kernel, by decide⟩
theorem iX2_putIn : Cond.instanceMethod yX2_putIn ∈ am_T := (am_T_in (i := 814) (by decide +kernel) rfl)
theorem sX2_putIn : Cond.selects yX2_putIn.cls yX2_putIn yX2_putIn ∈ am_T := (am_T_in (i := 50) (by decide +kernel) rfl)
theorem oX2_polarityIn : am_mok qX2_polarityIn 1 := ⟨(am_T_in (i := 819) (by decide +kernel) rfl), am_ini_ScopeLister_Layout, by decide +kernel, by decide⟩
theorem iX2_polarityIn : Cond.instanceMethod yX2_polarityIn ∈ am_T := (am_T_in (i := 818) (by decide +kernel) rfl)
theorem sX2_polarityIn : Cond.selects yX2_polarityIn.cls yX2_polarityIn yX2_polarityIn ∈ am_T := (am_T_in (i := 51) (by decide +kernel) rfl)
theorem oX2_parentOf : am_mok qX2_parentOf 1 := ⟨(am_T_in (i := 1084) (by decide +kernel) rfl), am_ini_ScopeLister_Layout, by decide +kernel, by decide⟩
theorem iX2_parentOf : Cond.instanceMethod yX2_parentOf ∈ am_T := (am_T_in (i := 1083) (by decide +kernel) rfl)
theorem sX2_parentOf : Cond.selects yX2_parentOf.cls yX2_parentOf yX2_parentOf ∈ am_T := (am_T_in (i := 71) (by decide +kernel) rfl)
theorem oX2_isUnder : am_mok qX2_isUnder 2 := ⟨(am_T_in (i := 1102) (by decide +kernel) rfl), am_ini_ScopeLister_Layout, by decide +kernel, by decide⟩
theorem iX2_isUnder : Cond.instanceMethod yX2_isUnder ∈ am_T := (am_T_in (i := 1101) (by decide +kernel) rfl)
theorem sX2_isUnder : Cond.selects yX2_isUnder.cls yX2_isUnder yX2_isUnder ∈ am_T := (am_T_in (i := 72) (by decide +kernel) rfl)
theorem oX2_orderAfterSwap : am_mok qX2_orderAfterSwap 2 := ⟨(am_T_in (i := 832) (by decide +kernel) rfl), am_ini_ScopeLister_Layout, by decide +kernel, by decide⟩
theorem iX2_orderAfterSwap : Cond.instanceMethod yX2_orderAfterSwap ∈ am_T := (am_T_in (i := 831) (by decide +kernel) rfl)
theorem sX2_orderAfterSwap : Cond.selects yX2_orderAfterSwap.cls yX2_orderAfterSwap yX2_orderAfterSwap ∈ am_T := (am_T_in (i := 54) (by decide +kernel) rfl)
theorem oX2_extendBy : am_mok qX2_extendBy 3 := ⟨(am_T_in (i := 836) (by decide +kernel) rfl), am_ini_ScopeLister_Layout, by decide +kernel, by decide⟩
theorem iX2_extendBy : Cond.instanceMethod yX2_extendBy ∈ am_T := (am_T_in (i := 835) (by decide +kernel) rfl)
theorem sX2_extendBy : Cond.selects yX2_extendBy.cls yX2_extendBy yX2_extendBy ∈ am_T := (am_T_in (i := 55) (by decide +kernel) rfl)
theorem oX3_init : am_mok qX3_init 3 := ⟨(am_T_in (i := 370) (by decide +kernel) rfl), am_ini_ScopeLister_Meaning, by decide +kernel, by decide⟩
theorem iX3_init : Cond.instanceMethod yX3_init ∈ am_T := (am_T_in (i := 369) (by decide +kernel) rfl)
theorem oX3_forget : am_mok qX3_forget 0 := ⟨(am_T_in (i := 780) (by decide +kernel) rfl), am_ini_ScopeLister_Meaning, by decide +kernel, by decide⟩
theorem iX3_forget : Cond.instanceMethod yX3_forget ∈ am_T := (am_T_in (i := 779) (by decide +kernel) rfl)
theorem sX3_forget : Cond.selects yX3_forget.cls yX3_forget yX3_forget ∈ am_T := (am_T_in (i := 46) (by decide +kernel) rfl)
theorem oX3_workOut : am_mok qX3_workOut 0 := ⟨(am_T_in (i := 802) (by decide +kernel) rfl), am_ini_ScopeLister_Meaning, by decide +kernel, by decide⟩
theorem iX3_workOut : Cond.instanceMethod yX3_workOut ∈ am_T := (am_T_in (i := 801) (by decide +kernel) rfl)
theorem sX3_workOut : Cond.selects yX3_workOut.cls yX3_workOut yX3_workOut ∈ am_T := (am_T_in (i := 47) (by decide +kernel) rfl)
theorem oX3_findSteps : am_mok qX3_findSteps 1 := ⟨(am_T_in (i := 807) (by decide +kernel) rfl), am_ini_ScopeLister_Meaning, by decide +kernel, by decide⟩
theorem iX3_findSteps : Cond.instanceMethod yX3_findSteps ∈ am_T := (am_T_in (i := 806) (by decide +kernel) rfl)
theorem sX3_findSteps : Cond.selects yX3_findSteps.cls yX3_findSteps yX3_findSteps ∈ am_T := (am_T_in (i := 48) (by decide +kernel) rfl)
theorem oX3_isEveryOrSome : am_mok qX3_isEveryOrSome 1 := ⟨(am_T_in (i := 824) (by decide +kernel) rfl), am_ini_ScopeLister_Meaning, by decide +kernel, by decide⟩
theorem iX3_isEveryOrSome : Cond.instanceMethod yX3_isEveryOrSome ∈ am_T := (am_T_in (i := 823) (by decide +kernel) rfl)
theorem sX3_isEveryOrSome : Cond.selects yX3_isEveryOrSome.cls yX3_isEveryOrSome yX3_isEveryOrSome ∈ am_T := (am_T_in (i := 52) (by decide +kernel) rfl)
theorem oX3_noteSwap : am_mok qX3_noteSwap 3 := ⟨(am_T_in (i := 828) (by decide +kernel) rfl), am_ini_ScopeLister_Meaning, by decide +kernel, by decide⟩
theorem iX3_noteSwap : Cond.instanceMethod yX3_noteSwap ∈ am_T := (am_T_in (i := 827) (by decide +kernel) rfl)
theorem sX3_noteSwap : Cond.selects yX3_noteSwap.cls yX3_noteSwap yX3_noteSwap ∈ am_T := (am_T_in (i := 53) (by decide +kernel) rfl)
theorem oX3_isStrongOnTop : am_mok qX3_isStrongOnTop 2 := ⟨(am_T_in (i := 844) (by decide +kernel) rfl), am_ini_ScopeLister_Meaning, by decide +kernel, by decide⟩
theorem tX3_isStrongOnTop : Cond.static yX3_isStrongOnTop ∈ am_T := (am_T_in (i := 843) (by decide +kernel) rfl)
theorem oX3_formClass : am_mok qX3_formClass 1 := ⟨(am_T_in (i := 848) (by decide +kernel) rfl), am_ini_ScopeLister_Meaning, by decide +kernel, by decide⟩
theorem iX3_formClass : Cond.instanceMethod yX3_formClass ∈ am_T := (am_T_in (i := 847) (by decide +kernel) rfl)
theorem sX3_formClass : Cond.selects yX3_formClass.cls yX3_formClass yX3_formClass ∈ am_T := (am_T_in (i := 57) (by decide +kernel) rfl)
theorem oX3_spread : am_mok qX3_spread 3 := ⟨(am_T_in (i := 852) (by decide +kernel) rfl), am_ini_ScopeLister_Meaning, by decide +kernel, by decide⟩
theorem iX3_spread : Cond.instanceMethod yX3_spread ∈ am_T := (am_T_in (i := 851) (by decide +kernel) rfl)
theorem sX3_spread : Cond.selects yX3_spread.cls yX3_spread yX3_spread ∈ am_T := (am_T_in (i := 58) (by decide +kernel) rfl)
theorem oX3_leadsTo : am_mok qX3_leadsTo 2 := ⟨(am_T_in (i := 1158) (by decide +kernel) rfl), am_ini_ScopeLister_Meaning, by decide +kernel, by decide⟩
theorem iX3_leadsTo : Cond.instanceMethod yX3_leadsTo ∈ am_T := (am_T_in (i := 1157) (by decide +kernel) rfl)
theorem sX3_leadsTo : Cond.selects yX3_leadsTo.cls yX3_leadsTo yX3_leadsTo ∈ am_T := (am_T_in (i := 79) (by decide +kernel) rfl)
theorem oX3_countClasses : am_mok qX3_countClasses 1 := ⟨(am_T_in (i := 1177) (by decide +kernel) rfl), am_ini_ScopeLister_Meaning, by decide +kernel, by decide⟩
theorem iX3_countClasses : Cond.instanceMethod yX3_countClasses ∈ am_T := (am_T_in (i := 1176) (by decide +kernel) rfl)
theorem sX3_countClasses : Cond.selects yX3_countClasses.cls yX3_countClasses yX3_countClasses ∈ am_T := (am_T_in (i := 80) (by decide +kernel) rfl)
theorem oX4_init : am_mok qX4_init 3 := ⟨(am_T_in (i := 416) (by decide +kernel) rfl), am_ini_ScopeLister_Model, by decide +kernel, by decide⟩
theorem iX4_init : Cond.instanceMethod yX4_init ∈ am_T := (am_T_in (i := 415) (by decide +kernel) rfl)
theorem oX4_forgetTruths : am_mok qX4_forgetTruths 0 := ⟨(am_T_in (i := 710) (by decide +kernel) rfl), am_ini_ScopeLister_Model, by decide +kernel, by decide⟩
theorem iX4_forgetTruths : Cond.instanceMethod yX4_forgetTruths ∈ am_T := (am_T_in (i := 709) (by decide +kernel) rfl)
theorem sX4_forgetTruths : Cond.selects yX4_forgetTruths.cls yX4_forgetTruths yX4_forgetTruths ∈ am_T := (am_T_in (i := 31) (by decide +kernel) rfl)
theorem oX4_dropFacts : am_mok qX4_dropFacts 0 := ⟨(am_T_in (i := 706) (by decide +kernel) rfl), am_ini_ScopeLister_Model, by decide +kernel, by decide⟩
theorem iX4_dropFacts : Cond.instanceMethod yX4_dropFacts ∈ am_T := (am_T_in (i := 705) (by decide +kernel) rfl)
theorem sX4_dropFacts : Cond.selects yX4_dropFacts.cls yX4_dropFacts yX4_dropFacts ∈ am_T := (am_T_in (i := 30) (by decide +kernel) rfl)
theorem oX4_indexOfFact : am_mok qX4_indexOfFact 3 := ⟨(am_T_in (i := 871) (by decide +kernel) rfl), am_ini_ScopeLister_Model, by decide +kernel, by decide⟩
theorem tX4_indexOfFact : Cond.static yX4_indexOfFact ∈ am_T := (am_T_in (i := 870) (by decide +kernel) rfl)
theorem oX4_exchangeFact : am_mok qX4_exchangeFact 4 := ⟨(am_T_in (i := 1223) (by decide +kernel) rfl), am_ini_ScopeLister_Model, by decide +kernel, by decide⟩
theorem iX4_exchangeFact : Cond.instanceMethod yX4_exchangeFact ∈ am_T := (am_T_in (i := 1222) (by decide +kernel) rfl)
theorem sX4_exchangeFact : Cond.selects yX4_exchangeFact.cls yX4_exchangeFact yX4_exchangeFact ∈ am_T := (am_T_in (i := 82) (by decide +kernel) rfl)
theorem oX4_isTrue : am_mok qX4_isTrue 1 := ⟨(am_T_in (i := 859) (by decide +kernel) rfl), am_ini_ScopeLister_Model, by decide +kernel, by decide⟩
theorem iX4_isTrue : Cond.instanceMethod yX4_isTrue ∈ am_T := (am_T_in (i := 858) (by decide +kernel) rfl)
theorem sX4_isTrue : Cond.selects yX4_isTrue.cls yX4_isTrue yX4_isTrue ∈ am_T := (am_T_in (i := 59) (by decide +kernel) rfl)
theorem oX4_holds : am_mok qX4_holds 2 := ⟨(am_T_in (i := 864) (by decide +kernel) rfl), am_ini_ScopeLister_Model, by decide +kernel, by decide⟩
theorem iX4_holds : Cond.instanceMethod yX4_holds ∈ am_T := (am_T_in (i := 863) (by decide +kernel) rfl)
theorem sX4_holds : Cond.selects yX4_holds.cls yX4_holds yX4_holds ∈ am_T := (am_T_in (i := 60) (by decide +kernel) rfl)
theorem oX4_atomHolds : am_mok qX4_atomHolds 1 := ⟨(am_T_in (i := 868) (by decide +kernel) rfl), am_ini_ScopeLister_Model, by decide +kernel, by decide⟩
theorem iX4_atomHolds : Cond.instanceMethod yX4_atomHolds ∈ am_T := (am_T_in (i := 867) (by decide +kernel) rfl)
theorem sX4_atomHolds : Cond.selects yX4_atomHolds.cls yX4_atomHolds yX4_atomHolds ∈ am_T := (am_T_in (i := 61) (by decide +kernel) rfl)
theorem oX4_quantifierHolds : am_mok qX4_quantifierHolds 2 := ⟨(am_T_in (i := 875) (by decide +kernel) rfl), am_ini_ScopeLister_Model, by decide +kernel, by decide⟩
theorem iX4_quantifierHolds : Cond.instanceMethod yX4_quantifierHolds ∈ am_T := (am_T_in (i := 874) (by decide +kernel) rfl)
theorem sX4_quantifierHolds : Cond.selects yX4_quantifierHolds.cls yX4_quantifierHolds yX4_quantifierHolds ∈ am_T := (am_T_in (i := 62) (by decide +kernel) rfl)
theorem oX4_isEnough : am_mok qX4_isEnough 3 := ⟨(am_T_in (i := 878) (by decide +kernel) rfl), am_ini_ScopeLister_Model, by decide +kernel, by decide⟩
theorem tX4_isEnough : Cond.static yX4_isEnough ∈ am_T := (am_T_in (i := 877) (by decide +kernel) rfl)
theorem oX5_init : am_mok qX5_init 3 := ⟨(am_T_in (i := 314) (by decide +kernel) rfl), am_ini_ScopeLister_ReadingFinder, by decide +kernel, by decide⟩
theorem iX5_init : Cond.instanceMethod yX5_init ∈ am_T := (am_T_in (i := 313) (by decide +kernel) rfl)
theorem oX5_findReadings : am_mok qX5_findReadings 0 := ⟨(am_T_in (i := 719) (by decide +kernel) rfl), am_ini_ScopeLister_ReadingFinder, by decide +kernel, by decide⟩
theorem iX5_findReadings : Cond.instanceMethod yX5_findReadings ∈ am_T := (am_T_in (i := 718) (by decide +kernel) rfl)
theorem sX5_findReadings : Cond.selects yX5_findReadings.cls yX5_findReadings yX5_findReadings ∈ am_T := (am_T_in (i := 33) (by decide +kernel) rfl)
theorem oX5_fillNext : am_mok qX5_fillNext 5 := ⟨(am_T_in (i := 746) (by decide +kernel) rfl), am_ini_ScopeLister_ReadingFinder, by decide +kernel, by decide⟩
theorem iX5_fillNext : Cond.instanceMethod yX5_fillNext ∈ am_T := (am_T_in (i := 745) (by decide +kernel) rfl)
theorem sX5_fillNext : Cond.selects yX5_fillNext.cls yX5_fillNext yX5_fillNext ∈ am_T := (am_T_in (i := 39) (by decide +kernel) rfl)
theorem oX5_leavesNoneOut : am_mok qX5_leavesNoneOut 3 := ⟨(am_T_in (i := 763) (by decide +kernel) rfl), am_ini_ScopeLister_ReadingFinder, by decide +kernel, by decide⟩
theorem iX5_leavesNoneOut : Cond.instanceMethod yX5_leavesNoneOut ∈ am_T := (am_T_in (i := 762) (by decide +kernel) rfl)
theorem sX5_leavesNoneOut : Cond.selects yX5_leavesNoneOut.cls yX5_leavesNoneOut yX5_leavesNoneOut ∈ am_T := (am_T_in (i := 43) (by decide +kernel) rfl)
theorem oX5_welcomeUnder : am_mok qX5_welcomeUnder 3 := ⟨(am_T_in (i := 754) (by decide +kernel) rfl), am_ini_ScopeLister_ReadingFinder, by decide +kernel, by decide⟩
theorem iX5_welcomeUnder : Cond.instanceMethod yX5_welcomeUnder ∈ am_T := (am_T_in (i := 753) (by decide +kernel) rfl)
theorem sX5_welcomeUnder : Cond.selects yX5_welcomeUnder.cls yX5_welcomeUnder yX5_welcomeUnder ∈ am_T := (am_T_in (i := 41) (by decide +kernel) rfl)
theorem oX5_missingIn : am_mok qX5_missingIn 2 := ⟨(am_T_in (i := 759) (by decide +kernel) rfl), am_ini_ScopeLister_ReadingFinder, by decide +kernel, by decide⟩
theorem iX5_missingIn : Cond.instanceMethod yX5_missingIn ∈ am_T := (am_T_in (i := 758) (by decide +kernel) rfl)
theorem sX5_missingIn : Cond.selects yX5_missingIn.cls yX5_missingIn yX5_missingIn ∈ am_T := (am_T_in (i := 42) (by decide +kernel) rfl)
theorem oX5_holesIn : am_mok qX5_holesIn 1 := ⟨(am_T_in (i := 773) (by decide +kernel) rfl), am_ini_ScopeLister_ReadingFinder, by decide +kernel, by decide⟩
theorem iX5_holesIn : Cond.instanceMethod yX5_holesIn ∈ am_T := (am_T_in (i := 772) (by decide +kernel) rfl)
theorem sX5_holesIn : Cond.selects yX5_holesIn.cls yX5_holesIn yX5_holesIn ∈ am_T := (am_T_in (i := 45) (by decide +kernel) rfl)
theorem oX5_openHoles : am_mok qX5_openHoles 3 := ⟨(am_T_in (i := 768) (by decide +kernel) rfl), am_ini_ScopeLister_ReadingFinder, by decide +kernel, by decide⟩
theorem iX5_openHoles : Cond.instanceMethod yX5_openHoles ∈ am_T := (am_T_in (i := 767) (by decide +kernel) rfl)
theorem sX5_openHoles : Cond.selects yX5_openHoles.cls yX5_openHoles yX5_openHoles ∈ am_T := (am_T_in (i := 44) (by decide +kernel) rfl)
theorem oX6_init : am_mok qX6_init 0 := ⟨(am_T_in (i := 294) (by decide +kernel) rfl), am_ini_ScopeLister_ReadingList, by decide +kernel, by decide⟩
theorem iX6_init : Cond.instanceMethod yX6_init ∈ am_T := (am_T_in (i := 293) (by decide +kernel) rfl)
theorem oX6_append : am_mok qX6_append 1 := ⟨(am_T_in (i := 750) (by decide +kernel) rfl), am_ini_ScopeLister_ReadingList, by decide +kernel, by decide⟩
theorem iX6_append : Cond.instanceMethod yX6_append ∈ am_T := (am_T_in (i := 749) (by decide +kernel) rfl)
theorem sX6_append : Cond.selects yX6_append.cls yX6_append yX6_append ∈ am_T := (am_T_in (i := 40) (by decide +kernel) rfl)
theorem oX6_extend : am_mok qX6_extend 2 := ⟨(am_T_in (i := 776) (by decide +kernel) rfl), am_ini_ScopeLister_ReadingList, by decide +kernel, by decide⟩
theorem tX6_extend : Cond.static yX6_extend ∈ am_T := (am_T_in (i := 775) (by decide +kernel) rfl)
theorem oX6_find : am_mok qX6_find 1 := ⟨(am_T_in (i := 841) (by decide +kernel) rfl), am_ini_ScopeLister_ReadingList, by decide +kernel, by decide⟩
theorem iX6_find : Cond.instanceMethod yX6_find ∈ am_T := (am_T_in (i := 840) (by decide +kernel) rfl)
theorem sX6_find : Cond.selects yX6_find.cls yX6_find yX6_find ∈ am_T := (am_T_in (i := 56) (by decide +kernel) rfl)
theorem oX7_init : am_mok qX7_init 0 := ⟨(am_T_in (i := 168) (by decide +kernel) rfl), am_ini_ScopeLister_Sentence, by decide +kernel, by decide⟩
theorem iX7_init : Cond.instanceMethod yX7_init ∈ am_T := (am_T_in (i := 167) (by decide +kernel) rfl)
theorem oX7_startOver : am_mok qX7_startOver 2 := ⟨(am_T_in (i := 517) (by decide +kernel) rfl), am_ini_ScopeLister_Sentence, by decide +kernel, by decide⟩
theorem iX7_startOver : Cond.instanceMethod yX7_startOver ∈ am_T := (am_T_in (i := 516) (by decide +kernel) rfl)
theorem sX7_startOver : Cond.selects yX7_startOver.cls yX7_startOver yX7_startOver ∈ am_T := (am_T_in (i := 1) (by decide +kernel) rfl)
theorem oX7_takeOver : am_mok qX7_takeOver 1 := ⟨(am_T_in (i := 686) (by decide +kernel) rfl), am_ini_ScopeLister_Sentence, by decide +kernel, by decide⟩
theorem iX7_takeOver : Cond.instanceMethod yX7_takeOver ∈ am_T := (am_T_in (i := 685) (by decide +kernel) rfl)
theorem sX7_takeOver : Cond.selects yX7_takeOver.cls yX7_takeOver yX7_takeOver ∈ am_T := (am_T_in (i := 27) (by decide +kernel) rfl)
theorem oX7_copyRow : am_mok qX7_copyRow 2 := ⟨(am_T_in (i := 689) (by decide +kernel) rfl), am_ini_ScopeLister_Sentence, by decide +kernel, by decide⟩
theorem tX7_copyRow : Cond.static yX7_copyRow ∈ am_T := (am_T_in (i := 688) (by decide +kernel) rfl)
theorem oX7_addQuantifier : am_mok qX7_addQuantifier 2 := ⟨(am_T_in (i := 650) (by decide +kernel) rfl), am_ini_ScopeLister_Sentence, by decide +kernel, by decide⟩
theorem iX7_addQuantifier : Cond.instanceMethod yX7_addQuantifier ∈ am_T := (am_T_in (i := 649) (by decide +kernel) rfl)
theorem sX7_addQuantifier : Cond.selects yX7_addQuantifier.cls yX7_addQuantifier yX7_addQuantifier ∈ am_T := (am_T_in (i := 18) (by decide +kernel) rfl)
theorem oX7_addNegation : am_mok qX7_addNegation 0 := ⟨(am_T_in (i := 642) (by decide +kernel) rfl), am_ini_ScopeLister_Sentence, by decide +kernel, by decide⟩
theorem iX7_addNegation : Cond.instanceMethod yX7_addNegation ∈ am_T := (am_T_in (i := 641) (by decide +kernel) rfl)
theorem sX7_addNegation : Cond.selects yX7_addNegation.cls yX7_addNegation yX7_addNegation ∈ am_T := (am_T_in (i := 16) (by decide +kernel) rfl)
theorem oX7_addLeaf : am_mok qX7_addLeaf 3 := ⟨(am_T_in (i := 551) (by decide +kernel) rfl), am_ini_ScopeLister_Sentence, by decide +kernel, by decide⟩
theorem iX7_addLeaf : Cond.instanceMethod yX7_addLeaf ∈ am_T := (am_T_in (i := 550) (by decide +kernel) rfl)
theorem sX7_addLeaf : Cond.selects yX7_addLeaf.cls yX7_addLeaf yX7_addLeaf ∈ am_T := (am_T_in (i := 8) (by decide +kernel) rfl)
theorem oX7_variableIn : am_mok qX7_variableIn 1 := ⟨(am_T_in (i := 566) (by decide +kernel) rfl), am_ini_ScopeLister_Sentence, by decide +kernel, by decide⟩
theorem iX7_variableIn : Cond.instanceMethod yX7_variableIn ∈ am_T := (am_T_in (i := 565) (by decide +kernel) rfl)
theorem sX7_variableIn : Cond.selects yX7_variableIn.cls yX7_variableIn yX7_variableIn ∈ am_T := (am_T_in (i := 9) (by decide +kernel) rfl)
theorem oX7_predicateNamedBy : am_mok qX7_predicateNamedBy 1 := ⟨(am_T_in (i := 570) (by decide +kernel) rfl), am_ini_ScopeLister_Sentence, by decide +kernel, by decide⟩
theorem iX7_predicateNamedBy : Cond.instanceMethod yX7_predicateNamedBy ∈ am_T := (am_T_in (i := 569) (by decide +kernel) rfl)
theorem sX7_predicateNamedBy : Cond.selects yX7_predicateNamedBy.cls yX7_predicateNamedBy yX7_predicateNamedBy ∈ am_T := (am_T_in (i := 10) (by decide +kernel) rfl)
theorem oX7_haveSameName : am_mok qX7_haveSameName 2 := ⟨(am_T_in (i := 574) (by decide +kernel) rfl), am_ini_ScopeLister_Sentence, by decide +kernel, by decide⟩
theorem iX7_haveSameName : Cond.instanceMethod yX7_haveSameName ∈ am_T := (am_T_in (i := 573) (by decide +kernel) rfl)
theorem sX7_haveSameName : Cond.selects yX7_haveSameName.cls yX7_haveSameName yX7_haveSameName ∈ am_T := (am_T_in (i := 11) (by decide +kernel) rfl)
theorem oX7_argumentsOf : am_mok qX7_argumentsOf 1 := ⟨(am_T_in (i := 578) (by decide +kernel) rfl), am_ini_ScopeLister_Sentence, by decide +kernel, by decide⟩
theorem iX7_argumentsOf : Cond.instanceMethod yX7_argumentsOf ∈ am_T := (am_T_in (i := 577) (by decide +kernel) rfl)
theorem sX7_argumentsOf : Cond.selects yX7_argumentsOf.cls yX7_argumentsOf yX7_argumentsOf ∈ am_T := (am_T_in (i := 12) (by decide +kernel) rfl)
theorem oX7_holesOf : am_mok qX7_holesOf 1 := ⟨(am_T_in (i := 662) (by decide +kernel) rfl), am_ini_ScopeLister_Sentence, by decide +kernel, by decide⟩
theorem iX7_holesOf : Cond.instanceMethod yX7_holesOf ∈ am_T := (am_T_in (i := 661) (by decide +kernel) rfl)
theorem sX7_holesOf : Cond.selects yX7_holesOf.cls yX7_holesOf yX7_holesOf ∈ am_T := (am_T_in (i := 21) (by decide +kernel) rfl)
theorem oX7_isQuantifier : am_mok qX7_isQuantifier 1 := ⟨(am_T_in (i := 658) (by decide +kernel) rfl), am_ini_ScopeLister_Sentence, by decide +kernel, by decide⟩
theorem iX7_isQuantifier : Cond.instanceMethod yX7_isQuantifier ∈ am_T := (am_T_in (i := 657) (by decide +kernel) rfl)
theorem sX7_isQuantifier : Cond.selects yX7_isQuantifier.cls yX7_isQuantifier yX7_isQuantifier ∈ am_T := (am_T_in (i := 20) (by decide +kernel) rfl)
theorem oX7_contains : am_mok qX7_contains 2 := ⟨(am_T_in (i := 682) (by decide +kernel) rfl), am_ini_ScopeLister_Sentence, by decide +kernel, by decide⟩
theorem iX7_contains : Cond.instanceMethod yX7_contains ∈ am_T := (am_T_in (i := 681) (by decide +kernel) rfl)
theorem sX7_contains : Cond.selects yX7_contains.cls yX7_contains yX7_contains ∈ am_T := (am_T_in (i := 26) (by decide +kernel) rfl)
theorem oX7_ownerOf : am_mok qX7_ownerOf 1 := ⟨(am_T_in (i := 678) (by decide +kernel) rfl), am_ini_ScopeLister_Sentence, by decide +kernel, by decide⟩
theorem iX7_ownerOf : Cond.instanceMethod yX7_ownerOf ∈ am_T := (am_T_in (i := 677) (by decide +kernel) rfl)
theorem sX7_ownerOf : Cond.selects yX7_ownerOf.cls yX7_ownerOf yX7_ownerOf ∈ am_T := (am_T_in (i := 25) (by decide +kernel) rfl)
theorem oX7_quantifierOf : am_mok qX7_quantifierOf 2 := ⟨(am_T_in (i := 670) (by decide +kernel) rfl), am_ini_ScopeLister_Sentence, by decide +kernel, by decide⟩
theorem iX7_quantifierOf : Cond.instanceMethod yX7_quantifierOf ∈ am_T := (am_T_in (i := 669) (by decide +kernel) rfl)
theorem sX7_quantifierOf : Cond.selects yX7_quantifierOf.cls yX7_quantifierOf yX7_quantifierOf ∈ am_T := (am_T_in (i := 23) (by decide +kernel) rfl)
theorem oX7_findErrorOfUse : am_mok qX7_findErrorOfUse 0 := ⟨(am_T_in (i := 654) (by decide +kernel) rfl), am_ini_ScopeLister_Sentence, by decide +kernel, by decide⟩
theorem iX7_findErrorOfUse : Cond.instanceMethod yX7_findErrorOfUse ∈ am_T := (am_T_in (i := 653) (by decide +kernel) rfl)
theorem sX7_findErrorOfUse : Cond.selects yX7_findErrorOfUse.cls yX7_findErrorOfUse yX7_findErrorOfUse ∈ am_T := (am_T_in (i := 19) (by decide +kernel) rfl)
theorem oX7_errorInQuantifier : am_mok qX7_errorInQuantifier 1 := ⟨(am_T_in (i := 666) (by decide +kernel) rfl), am_ini_ScopeLister_Sentence, by decide +kernel, by decide⟩
theorem iX7_errorInQuantifier : Cond.instanceMethod yX7_errorInQuantifier ∈ am_T := (am_T_in (i := 665) (by decide +kernel) rfl)
theorem sX7_errorInQuantifier : Cond.selects yX7_errorInQuantifier.cls yX7_errorInQuantifier yX7_errorInQuantifier ∈ am_T := (am_T_in (i := 22) (by decide +kernel) rfl)
theorem oX7_errorInLeaf : am_mok qX7_errorInLeaf 1 := ⟨(am_T_in (i := 674) (by decide +kernel) rfl), am_ini_ScopeLister_Sentence, by decide +kernel, by decide⟩
theorem iX7_errorInLeaf : Cond.instanceMethod yX7_errorInLeaf ∈ am_T := (am_T_in (i := 673) (by decide +kernel) rfl)
theorem sX7_errorInLeaf : Cond.selects yX7_errorInLeaf.cls yX7_errorInLeaf yX7_errorInLeaf ∈ am_T := (am_T_in (i := 24) (by decide +kernel) rfl)
theorem oX8_init : am_mok qX8_init 1 := ⟨(am_T_in (i := 242) (by decide +kernel) rfl), am_ini_ScopeLister_SentenceParser, by decide +kernel, by decide⟩
theorem iX8_init : Cond.instanceMethod yX8_init ∈ am_T := (am_T_in (i := 241) (by decide +kernel) rfl)
theorem oX8_findErrorOfForm : am_mok qX8_findErrorOfForm 2 := ⟨(am_T_in (i := 513) (by decide +kernel) rfl), am_ini_ScopeLister_SentenceParser, by decide +kernel, by decide⟩
theorem iX8_findErrorOfForm : Cond.instanceMethod yX8_findErrorOfForm ∈ am_T := (am_T_in (i := 512) (by decide +kernel) rfl)
theorem sX8_findErrorOfForm : Cond.selects yX8_findErrorOfForm.cls yX8_findErrorOfForm yX8_findErrorOfForm ∈ am_T := (am_T_in (i := 0) (by decide +kernel) rfl)
theorem oX8_takeItem : am_mok qX8_takeItem 0 := ⟨(am_T_in (i := 524) (by decide +kernel) rfl), am_ini_ScopeLister_SentenceParser, by decide +kernel, by decide⟩
theorem iX8_takeItem : Cond.instanceMethod yX8_takeItem ∈ am_T := (am_T_in (i := 523) (by decide +kernel) rfl)
theorem sX8_takeItem : Cond.selects yX8_takeItem.cls yX8_takeItem yX8_takeItem ∈ am_T := (am_T_in (i := 2) (by decide +kernel) rfl)
theorem oX8_takeNegation : am_mok qX8_takeNegation 0 := ⟨(am_T_in (i := 638) (by decide +kernel) rfl), am_ini_ScopeLister_SentenceParser, by decide +kernel, by decide⟩
theorem iX8_takeNegation : Cond.instanceMethod yX8_takeNegation ∈ am_T := (am_T_in (i := 637) (by decide +kernel) rfl)
theorem sX8_takeNegation : Cond.selects yX8_takeNegation.cls yX8_takeNegation yX8_takeNegation ∈ am_T := (am_T_in (i := 15) (by decide +kernel) rfl)
theorem oX8_takeQuantifier : am_mok qX8_takeQuantifier 1 := ⟨(am_T_in (i := 646) (by decide +kernel) rfl), am_ini_ScopeLister_SentenceParser, by decide +kernel, by decide⟩
theorem iX8_takeQuantifier : Cond.instanceMethod yX8_takeQuantifier ∈ am_T := (am_T_in (i := 645) (by decide +kernel) rfl)
theorem sX8_takeQuantifier : Cond.selects yX8_takeQuantifier.cls yX8_takeQuantifier yX8_takeQuantifier ∈ am_T := (am_T_in (i := 17) (by decide +kernel) rfl)
theorem oX8_takeArguments : am_mok qX8_takeArguments 1 := ⟨(am_T_in (i := 539) (by decide +kernel) rfl), am_ini_ScopeLister_SentenceParser, by decide +kernel, by decide⟩
theorem iX8_takeArguments : Cond.instanceMethod yX8_takeArguments ∈ am_T := (am_T_in (i := 538) (by decide +kernel) rfl)
theorem sX8_takeArguments : Cond.selects yX8_takeArguments.cls yX8_takeArguments yX8_takeArguments ∈ am_T := (am_T_in (i := 5) (by decide +kernel) rfl)
theorem oX8_takeName : am_mok qX8_takeName 0 := ⟨(am_T_in (i := 528) (by decide +kernel) rfl), am_ini_ScopeLister_SentenceParser, by decide +kernel, by decide⟩
theorem iX8_takeName : Cond.instanceMethod yX8_takeName ∈ am_T := (am_T_in (i := 527) (by decide +kernel) rfl)
theorem sX8_takeName : Cond.selects yX8_takeName.cls yX8_takeName yX8_takeName ∈ am_T := (am_T_in (i := 3) (by decide +kernel) rfl)
theorem oX8_takeVariable : am_mok qX8_takeVariable 0 := ⟨(am_T_in (i := 547) (by decide +kernel) rfl), am_ini_ScopeLister_SentenceParser, by decide +kernel, by decide⟩
theorem iX8_takeVariable : Cond.instanceMethod yX8_takeVariable ∈ am_T := (am_T_in (i := 546) (by decide +kernel) rfl)
theorem sX8_takeVariable : Cond.selects yX8_takeVariable.cls yX8_takeVariable yX8_takeVariable ∈ am_T := (am_T_in (i := 7) (by decide +kernel) rfl)
theorem oX8_takeSign : am_mok qX8_takeSign 1 := ⟨(am_T_in (i := 543) (by decide +kernel) rfl), am_ini_ScopeLister_SentenceParser, by decide +kernel, by decide⟩
theorem iX8_takeSign : Cond.instanceMethod yX8_takeSign ∈ am_T := (am_T_in (i := 542) (by decide +kernel) rfl)
theorem sX8_takeSign : Cond.selects yX8_takeSign.cls yX8_takeSign yX8_takeSign ∈ am_T := (am_T_in (i := 6) (by decide +kernel) rfl)
theorem oX8_sign : am_mok qX8_sign 0 := ⟨(am_T_in (i := 532) (by decide +kernel) rfl), am_ini_ScopeLister_SentenceParser, by decide +kernel, by decide⟩
theorem iX8_sign : Cond.instanceMethod yX8_sign ∈ am_T := (am_T_in (i := 531) (by decide +kernel) rfl)
theorem sX8_sign : Cond.selects yX8_sign.cls yX8_sign yX8_sign ∈ am_T := (am_T_in (i := 4) (by decide +kernel) rfl)
theorem oX8_isFrom : am_mok qX8_isFrom 2 := ⟨(am_T_in (i := 535) (by decide +kernel) rfl), am_ini_ScopeLister_SentenceParser, by decide +kernel, by decide⟩
theorem tX8_isFrom : Cond.static yX8_isFrom ∈ am_T := (am_T_in (i := 534) (by decide +kernel) rfl)
theorem oX8_kindOfWord : am_mok qX8_kindOfWord 1 := ⟨(am_T_in (i := 582) (by decide +kernel) rfl), am_ini_ScopeLister_SentenceParser, by decide +kernel, by decide⟩
theorem iX8_kindOfWord : Cond.instanceMethod yX8_kindOfWord ∈ am_T := (am_T_in (i := 581) (by decide +kernel) rfl)
theorem sX8_kindOfWord : Cond.selects yX8_kindOfWord.cls yX8_kindOfWord yX8_kindOfWord ∈ am_T := (am_T_in (i := 13) (by decide +kernel) rfl)
theorem oX8_isWord : am_mok qX8_isWord 2 := ⟨(am_T_in (i := 595) (by decide +kernel) rfl), am_ini_ScopeLister_SentenceParser, by decide +kernel, by decide⟩
theorem iX8_isWord : Cond.instanceMethod yX8_isWord ∈ am_T := (am_T_in (i := 594) (by decide +kernel) rfl)
theorem sX8_isWord : Cond.selects yX8_isWord.cls yX8_isWord yX8_isWord ∈ am_T := (am_T_in (i := 14) (by decide +kernel) rfl)
theorem oX9_init : am_mok qX9_init 0 := ⟨(am_T_in (i := 160) (by decide +kernel) rfl), am_ini_ScopeLister, by decide +kernel, by decide⟩
theorem iX9_init : Cond.instanceMethod yX9_init ∈ am_T := (am_T_in (i := 159) (by decide +kernel) rfl)
theorem oX9_type : am_mok qX9_type 1 := ⟨(am_T_in (i := 887) (by decide +kernel) rfl), am_ini_ScopeLister, by decide +kernel, by decide⟩
theorem iX9_type : Cond.instanceMethod yX9_type ∈ am_T := (am_T_in (i := 885) (by decide +kernel) rfl)
theorem sX9_type : Cond.selects yX9_type.cls yX9_type yX9_type ∈ am_T := (am_T_in (i := 886) (by decide +kernel) rfl)
theorem oX9_clearText : am_mok qX9_clearText 0 := ⟨(am_T_in (i := 505) (by decide +kernel) rfl), am_ini_ScopeLister, by decide +kernel, by decide⟩
theorem iX9_clearText : Cond.instanceMethod yX9_clearText ∈ am_T := (am_T_in (i := 503) (by decide +kernel) rfl)
theorem sX9_clearText : Cond.selects yX9_clearText.cls yX9_clearText yX9_clearText ∈ am_T := (am_T_in (i := 504) (by decide +kernel) rfl)
theorem oX9_readSentence : am_mok qX9_readSentence 0 := ⟨(am_T_in (i := 509) (by decide +kernel) rfl), am_ini_ScopeLister, by decide +kernel, by decide⟩
theorem iX9_readSentence : Cond.instanceMethod yX9_readSentence ∈ am_T := (am_T_in (i := 507) (by decide +kernel) rfl)
theorem sX9_readSentence : Cond.selects yX9_readSentence.cls yX9_readSentence yX9_readSentence ∈ am_T := (am_T_in (i := 508) (by decide +kernel) rfl)
theorem oX9_errorKind : am_mok qX9_errorKind 0 := ⟨(am_T_in (i := 786) (by decide +kernel) rfl), am_ini_ScopeLister, by decide +kernel, by decide⟩
theorem iX9_errorKind : Cond.instanceMethod yX9_errorKind ∈ am_T := (am_T_in (i := 784) (by decide +kernel) rfl)
theorem sX9_errorKind : Cond.selects yX9_errorKind.cls yX9_errorKind yX9_errorKind ∈ am_T := (am_T_in (i := 785) (by decide +kernel) rfl)
theorem oX9_fragments : am_mok qX9_fragments 0 := ⟨(am_T_in (i := 790) (by decide +kernel) rfl), am_ini_ScopeLister, by decide +kernel, by decide⟩
theorem iX9_fragments : Cond.instanceMethod yX9_fragments ∈ am_T := (am_T_in (i := 788) (by decide +kernel) rfl)
theorem sX9_fragments : Cond.selects yX9_fragments.cls yX9_fragments yX9_fragments ∈ am_T := (am_T_in (i := 789) (by decide +kernel) rfl)
theorem oX9_kindOf : am_mok qX9_kindOf 1 := ⟨(am_T_in (i := 978) (by decide +kernel) rfl), am_ini_ScopeLister, by decide +kernel, by decide⟩
theorem iX9_kindOf : Cond.instanceMethod yX9_kindOf ∈ am_T := (am_T_in (i := 976) (by decide +kernel) rfl)
theorem sX9_kindOf : Cond.selects yX9_kindOf.cls yX9_kindOf yX9_kindOf ∈ am_T := (am_T_in (i := 977) (by decide +kernel) rfl)
theorem oX9_hasEdge : am_mok qX9_hasEdge 3 := ⟨(am_T_in (i := 1005) (by decide +kernel) rfl), am_ini_ScopeLister, by decide +kernel, by decide⟩
theorem iX9_hasEdge : Cond.instanceMethod yX9_hasEdge ∈ am_T := (am_T_in (i := 1003) (by decide +kernel) rfl)
theorem sX9_hasEdge : Cond.selects yX9_hasEdge.cls yX9_hasEdge yX9_hasEdge ∈ am_T := (am_T_in (i := 1004) (by decide +kernel) rfl)
theorem oX9_constrain : am_mok qX9_constrain 3 := ⟨(am_T_in (i := 1020) (by decide +kernel) rfl), am_ini_ScopeLister, by decide +kernel, by decide⟩
theorem iX9_constrain : Cond.instanceMethod yX9_constrain ∈ am_T := (am_T_in (i := 1018) (by decide +kernel) rfl)
theorem sX9_constrain : Cond.selects yX9_constrain.cls yX9_constrain yX9_constrain ∈ am_T := (am_T_in (i := 1019) (by decide +kernel) rfl)
theorem oX9_release : am_mok qX9_release 0 := ⟨(am_T_in (i := 1032) (by decide +kernel) rfl), am_ini_ScopeLister, by decide +kernel, by decide⟩
theorem iX9_release : Cond.instanceMethod yX9_release ∈ am_T := (am_T_in (i := 1030) (by decide +kernel) rfl)
theorem sX9_release : Cond.selects yX9_release.cls yX9_release yX9_release ∈ am_T := (am_T_in (i := 1031) (by decide +kernel) rfl)
theorem oX9_readings : am_mok qX9_readings 0 := ⟨(am_T_in (i := 1044) (by decide +kernel) rfl), am_ini_ScopeLister, by decide +kernel, by decide⟩
theorem iX9_readings : Cond.instanceMethod yX9_readings ∈ am_T := (am_T_in (i := 1042) (by decide +kernel) rfl)
theorem sX9_readings : Cond.selects yX9_readings.cls yX9_readings yX9_readings ∈ am_T := (am_T_in (i := 1043) (by decide +kernel) rfl)
theorem oX9_place : am_mok qX9_place 2 := ⟨(am_T_in (i := 1056) (by decide +kernel) rfl), am_ini_ScopeLister, by decide +kernel, by decide⟩
theorem iX9_place : Cond.instanceMethod yX9_place ∈ am_T := (am_T_in (i := 1054) (by decide +kernel) rfl)
theorem sX9_place : Cond.selects yX9_place.cls yX9_place yX9_place ∈ am_T := (am_T_in (i := 1055) (by decide +kernel) rfl)
theorem oX9_plug : am_mok qX9_plug 3 := ⟨(am_T_in (i := 1073) (by decide +kernel) rfl), am_ini_ScopeLister, by decide +kernel, by decide⟩
theorem iX9_plug : Cond.instanceMethod yX9_plug ∈ am_T := (am_T_in (i := 1071) (by decide +kernel) rfl)
theorem sX9_plug : Cond.selects yX9_plug.cls yX9_plug yX9_plug ∈ am_T := (am_T_in (i := 1072) (by decide +kernel) rfl)
theorem oX9_above : am_mok qX9_above 2 := ⟨(am_T_in (i := 1080) (by decide +kernel) rfl), am_ini_ScopeLister, by decide +kernel, by decide⟩
theorem iX9_above : Cond.instanceMethod yX9_above ∈ am_T := (am_T_in (i := 1078) (by decide +kernel) rfl)
theorem sX9_above : Cond.selects yX9_above.cls yX9_above yX9_above ∈ am_T := (am_T_in (i := 1079) (by decide +kernel) rfl)
theorem oX9_polarity : am_mok qX9_polarity 2 := ⟨(am_T_in (i := 1091) (by decide +kernel) rfl), am_ini_ScopeLister, by decide +kernel, by decide⟩
theorem iX9_polarity : Cond.instanceMethod yX9_polarity ∈ am_T := (am_T_in (i := 1089) (by decide +kernel) rfl)
theorem sX9_polarity : Cond.selects yX9_polarity.cls yX9_polarity yX9_polarity ∈ am_T := (am_T_in (i := 1090) (by decide +kernel) rfl)
theorem oX9_countBelow : am_mok qX9_countBelow 2 := ⟨(am_T_in (i := 1098) (by decide +kernel) rfl), am_ini_ScopeLister, by decide +kernel, by decide⟩
theorem iX9_countBelow : Cond.instanceMethod yX9_countBelow ∈ am_T := (am_T_in (i := 1096) (by decide +kernel) rfl)
theorem sX9_countBelow : Cond.selects yX9_countBelow.cls yX9_countBelow yX9_countBelow ∈ am_T := (am_T_in (i := 1097) (by decide +kernel) rfl)
theorem oX9_nextBelow : am_mok qX9_nextBelow 3 := ⟨(am_T_in (i := 1110) (by decide +kernel) rfl), am_ini_ScopeLister, by decide +kernel, by decide⟩
theorem iX9_nextBelow : Cond.instanceMethod yX9_nextBelow ∈ am_T := (am_T_in (i := 1108) (by decide +kernel) rfl)
theorem sX9_nextBelow : Cond.selects yX9_nextBelow.cls yX9_nextBelow yX9_nextBelow ∈ am_T := (am_T_in (i := 1109) (by decide +kernel) rfl)
theorem oX9_formulaChar : am_mok qX9_formulaChar 2 := ⟨(am_T_in (i := 1122) (by decide +kernel) rfl), am_ini_ScopeLister, by decide +kernel, by decide⟩
theorem iX9_formulaChar : Cond.instanceMethod yX9_formulaChar ∈ am_T := (am_T_in (i := 1120) (by decide +kernel) rfl)
theorem sX9_formulaChar : Cond.selects yX9_formulaChar.cls yX9_formulaChar yX9_formulaChar ∈ am_T := (am_T_in (i := 1121) (by decide +kernel) rfl)
theorem oX9_entails : am_mok qX9_entails 2 := ⟨(am_T_in (i := 1154) (by decide +kernel) rfl), am_ini_ScopeLister, by decide +kernel, by decide⟩
theorem iX9_entails : Cond.instanceMethod yX9_entails ∈ am_T := (am_T_in (i := 1152) (by decide +kernel) rfl)
theorem sX9_entails : Cond.selects yX9_entails.cls yX9_entails yX9_entails ∈ am_T := (am_T_in (i := 1153) (by decide +kernel) rfl)
theorem oX9_classOf : am_mok qX9_classOf 1 := ⟨(am_T_in (i := 1166) (by decide +kernel) rfl), am_ini_ScopeLister, by decide +kernel, by decide⟩
theorem iX9_classOf : Cond.instanceMethod yX9_classOf ∈ am_T := (am_T_in (i := 1164) (by decide +kernel) rfl)
theorem sX9_classOf : Cond.selects yX9_classOf.cls yX9_classOf yX9_classOf ∈ am_T := (am_T_in (i := 1165) (by decide +kernel) rfl)
theorem oX9_classes : am_mok qX9_classes 0 := ⟨(am_T_in (i := 1173) (by decide +kernel) rfl), am_ini_ScopeLister, by decide +kernel, by decide⟩
theorem iX9_classes : Cond.instanceMethod yX9_classes ∈ am_T := (am_T_in (i := 1171) (by decide +kernel) rfl)
theorem sX9_classes : Cond.selects yX9_classes.cls yX9_classes yX9_classes ∈ am_T := (am_T_in (i := 1172) (by decide +kernel) rfl)
theorem oX9_isWeak : am_mok qX9_isWeak 1 := ⟨(am_T_in (i := 1184) (by decide +kernel) rfl), am_ini_ScopeLister, by decide +kernel, by decide⟩
theorem iX9_isWeak : Cond.instanceMethod yX9_isWeak ∈ am_T := (am_T_in (i := 1182) (by decide +kernel) rfl)
theorem sX9_isWeak : Cond.selects yX9_isWeak.cls yX9_isWeak yX9_isWeak ∈ am_T := (am_T_in (i := 1183) (by decide +kernel) rfl)
theorem oX9_strongest : am_mok qX9_strongest 0 := ⟨(am_T_in (i := 1191) (by decide +kernel) rfl), am_ini_ScopeLister, by decide +kernel, by decide⟩
theorem iX9_strongest : Cond.instanceMethod yX9_strongest ∈ am_T := (am_T_in (i := 1189) (by decide +kernel) rfl)
theorem sX9_strongest : Cond.selects yX9_strongest.cls yX9_strongest yX9_strongest ∈ am_T := (am_T_in (i := 1190) (by decide +kernel) rfl)
theorem oX9_setDomain : am_mok qX9_setDomain 1 := ⟨(am_T_in (i := 1198) (by decide +kernel) rfl), am_ini_ScopeLister, by decide +kernel, by decide⟩
theorem iX9_setDomain : Cond.instanceMethod yX9_setDomain ∈ am_T := (am_T_in (i := 1196) (by decide +kernel) rfl)
theorem sX9_setDomain : Cond.selects yX9_setDomain.cls yX9_setDomain yX9_setDomain ∈ am_T := (am_T_in (i := 1197) (by decide +kernel) rfl)
theorem oX9_predicates : am_mok qX9_predicates 0 := ⟨(am_T_in (i := 794) (by decide +kernel) rfl), am_ini_ScopeLister, by decide +kernel, by decide⟩
theorem iX9_predicates : Cond.instanceMethod yX9_predicates ∈ am_T := (am_T_in (i := 792) (by decide +kernel) rfl)
theorem sX9_predicates : Cond.selects yX9_predicates.cls yX9_predicates yX9_predicates ∈ am_T := (am_T_in (i := 793) (by decide +kernel) rfl)
theorem oX9_arity : am_mok qX9_arity 1 := ⟨(am_T_in (i := 1206) (by decide +kernel) rfl), am_ini_ScopeLister, by decide +kernel, by decide⟩
theorem iX9_arity : Cond.instanceMethod yX9_arity ∈ am_T := (am_T_in (i := 1204) (by decide +kernel) rfl)
theorem sX9_arity : Cond.selects yX9_arity.cls yX9_arity yX9_arity ∈ am_T := (am_T_in (i := 1205) (by decide +kernel) rfl)
theorem oX9_setFact : am_mok qX9_setFact 4 := ⟨(am_T_in (i := 1218) (by decide +kernel) rfl), am_ini_ScopeLister, by decide +kernel, by decide⟩
theorem iX9_setFact : Cond.instanceMethod yX9_setFact ∈ am_T := (am_T_in (i := 1216) (by decide +kernel) rfl)
theorem sX9_setFact : Cond.selects yX9_setFact.cls yX9_setFact yX9_setFact ∈ am_T := (am_T_in (i := 1217) (by decide +kernel) rfl)
theorem oX9_truth : am_mok qX9_truth 1 := ⟨(am_T_in (i := 1230) (by decide +kernel) rfl), am_ini_ScopeLister, by decide +kernel, by decide⟩
theorem iX9_truth : Cond.instanceMethod yX9_truth ∈ am_T := (am_T_in (i := 1228) (by decide +kernel) rfl)
theorem sX9_truth : Cond.selects yX9_truth.cls yX9_truth yX9_truth ∈ am_T := (am_T_in (i := 1229) (by decide +kernel) rfl)
theorem oX9_trueReadings : am_mok qX9_trueReadings 0 := ⟨(am_T_in (i := 1237) (by decide +kernel) rfl), am_ini_ScopeLister, by decide +kernel, by decide⟩
theorem iX9_trueReadings : Cond.instanceMethod yX9_trueReadings ∈ am_T := (am_T_in (i := 1235) (by decide +kernel) rfl)
theorem sX9_trueReadings : Cond.selects yX9_trueReadings.cls yX9_trueReadings yX9_trueReadings ∈ am_T := (am_T_in (i := 1236) (by decide +kernel) rfl)
theorem oX9_nextDifferent : am_mok qX9_nextDifferent 1 := ⟨(am_T_in (i := 1244) (by decide +kernel) rfl), am_ini_ScopeLister, by decide +kernel, by decide⟩
theorem iX9_nextDifferent : Cond.instanceMethod yX9_nextDifferent ∈ am_T := (am_T_in (i := 1242) (by decide +kernel) rfl)
theorem sX9_nextDifferent : Cond.selects yX9_nextDifferent.cls yX9_nextDifferent yX9_nextDifferent ∈ am_T := (am_T_in (i := 1243) (by decide +kernel) rfl)
theorem oX9_fingerprint : am_mok qX9_fingerprint 0 := ⟨(am_T_in (i := 798) (by decide +kernel) rfl), am_ini_ScopeLister, by decide +kernel, by decide⟩
theorem iX9_fingerprint : Cond.instanceMethod yX9_fingerprint ∈ am_T := (am_T_in (i := 796) (by decide +kernel) rfl)
theorem sX9_fingerprint : Cond.selects yX9_fingerprint.cls yX9_fingerprint yX9_fingerprint ∈ am_T := (am_T_in (i := 797) (by decide +kernel) rfl)
theorem oX9_listReadings : am_mok qX9_listReadings 0 := ⟨(am_T_in (i := 715) (by decide +kernel) rfl), am_ini_ScopeLister, by decide +kernel, by decide⟩
theorem iX9_listReadings : Cond.instanceMethod yX9_listReadings ∈ am_T := (am_T_in (i := 714) (by decide +kernel) rfl)
theorem sX9_listReadings : Cond.selects yX9_listReadings.cls yX9_listReadings yX9_listReadings ∈ am_T := (am_T_in (i := 32) (by decide +kernel) rfl)
theorem oX9_layOut : am_mok qX9_layOut 1 := ⟨(am_T_in (i := 1060) (by decide +kernel) rfl), am_ini_ScopeLister, by decide +kernel, by decide⟩
theorem iX9_layOut : Cond.instanceMethod yX9_layOut ∈ am_T := (am_T_in (i := 1059) (by decide +kernel) rfl)
theorem sX9_layOut : Cond.selects yX9_layOut.cls yX9_layOut yX9_layOut ∈ am_T := (am_T_in (i := 69) (by decide +kernel) rfl)
theorem oX9_needSentence : am_mok qX9_needSentence 0 := ⟨(am_T_in (i := 1048) (by decide +kernel) rfl), am_ini_ScopeLister, by decide +kernel, by decide⟩
theorem iX9_needSentence : Cond.instanceMethod yX9_needSentence ∈ am_T := (am_T_in (i := 1047) (by decide +kernel) rfl)
theorem sX9_needSentence : Cond.selects yX9_needSentence.cls yX9_needSentence yX9_needSentence ∈ am_T := (am_T_in (i := 68) (by decide +kernel) rfl)
theorem oX9_needFragment : am_mok qX9_needFragment 1 := ⟨(am_T_in (i := 982) (by decide +kernel) rfl), am_ini_ScopeLister, by decide +kernel, by decide⟩
theorem iX9_needFragment : Cond.instanceMethod yX9_needFragment ∈ am_T := (am_T_in (i := 981) (by decide +kernel) rfl)
theorem sX9_needFragment : Cond.selects yX9_needFragment.cls yX9_needFragment yX9_needFragment ∈ am_T := (am_T_in (i := 64) (by decide +kernel) rfl)
theorem oX9_needHole : am_mok qX9_needHole 2 := ⟨(am_T_in (i := 1009) (by decide +kernel) rfl), am_ini_ScopeLister, by decide +kernel, by decide⟩
theorem iX9_needHole : Cond.instanceMethod yX9_needHole ∈ am_T := (am_T_in (i := 1008) (by decide +kernel) rfl)
theorem sX9_needHole : Cond.selects yX9_needHole.cls yX9_needHole yX9_needHole ∈ am_T := (am_T_in (i := 65) (by decide +kernel) rfl)
theorem oX9_needReading : am_mok qX9_needReading 1 := ⟨(am_T_in (i := 1064) (by decide +kernel) rfl), am_ini_ScopeLister, by decide +kernel, by decide⟩
theorem iX9_needReading : Cond.instanceMethod yX9_needReading ∈ am_T := (am_T_in (i := 1063) (by decide +kernel) rfl)
theorem sX9_needReading : Cond.selects yX9_needReading.cls yX9_needReading yX9_needReading ∈ am_T := (am_T_in (i := 70) (by decide +kernel) rfl)
theorem oX9_needPredicate : am_mok qX9_needPredicate 1 := ⟨(am_T_in (i := 1210) (by decide +kernel) rfl), am_ini_ScopeLister, by decide +kernel, by decide⟩
theorem iX9_needPredicate : Cond.instanceMethod yX9_needPredicate ∈ am_T := (am_T_in (i := 1209) (by decide +kernel) rfl)
theorem sX9_needPredicate : Cond.selects yX9_needPredicate.cls yX9_needPredicate yX9_needPredicate ∈ am_T := (am_T_in (i := 81) (by decide +kernel) rfl)
theorem oX9_needStart : am_mok qX9_needStart 1 := ⟨(am_T_in (i := 1114) (by decide +kernel) rfl), am_ini_ScopeLister, by decide +kernel, by decide⟩
theorem iX9_needStart : Cond.instanceMethod yX9_needStart ∈ am_T := (am_T_in (i := 1113) (by decide +kernel) rfl)
theorem sX9_needStart : Cond.selects yX9_needStart.cls yX9_needStart yX9_needStart ∈ am_T := (am_T_in (i := 73) (by decide +kernel) rfl)
theorem oX9_isIn : am_mok qX9_isIn 2 := ⟨(am_T_in (i := 730) (by decide +kernel) rfl), am_ini_ScopeLister, by decide +kernel, by decide⟩
theorem tX9_isIn : Cond.static yX9_isIn ∈ am_T := (am_T_in (i := 729) (by decide +kernel) rfl)
theorem oX9_wordOf : am_mok qX9_wordOf 1 := ⟨(am_T_in (i := 585) (by decide +kernel) rfl), am_ini_ScopeLister, by decide +kernel, by decide⟩
theorem tX9_wordOf : Cond.static yX9_wordOf ∈ am_T := (am_T_in (i := 584) (by decide +kernel) rfl)
theorem oX10_init : am_mok qX10_init 0 := ⟨(am_T_in (i := 1249) (by decide +kernel) rfl), am_ini_ScopeListerModel, by decide +kernel, by decide⟩
theorem iX10_init : Cond.instanceMethod yX10_init ∈ am_T := (am_T_in (i := 1248) (by decide +kernel) rfl)
theorem oX10_thrown : am_mok qX10_thrown 0 := ⟨(am_T_in (i := 1409) (by decide +kernel) rfl), am_ini_ScopeListerModel, by decide +kernel, by decide⟩
theorem iX10_thrown : Cond.instanceMethod yX10_thrown ∈ am_T := (am_T_in (i := 1407) (by decide +kernel) rfl)
theorem sX10_thrown : Cond.selects yX10_thrown.cls yX10_thrown yX10_thrown ∈ am_T := (am_T_in (i := 1408) (by decide +kernel) rfl)
theorem oX10_in : am_mok qX10_in 3 := ⟨(am_T_in (i := 1416) (by decide +kernel) rfl), am_ini_ScopeListerModel, by decide +kernel, by decide⟩
theorem tX10_in : Cond.static yX10_in ∈ am_T := (am_T_in (i := 1415) (by decide +kernel) rfl)
theorem oX10_fails : am_mok qX10_fails 1 := ⟨(am_T_in (i := 1420) (by decide +kernel) rfl), am_ini_ScopeListerModel, by decide +kernel, by decide⟩
theorem iX10_fails : Cond.instanceMethod yX10_fails ∈ am_T := (am_T_in (i := 1419) (by decide +kernel) rfl)
theorem sX10_fails : Cond.selects yX10_fails.cls yX10_fails yX10_fails ∈ am_T := (am_T_in (i := 83) (by decide +kernel) rfl)
theorem oX10_type : am_mok qX10_type 1 := ⟨(am_T_in (i := 1413) (by decide +kernel) rfl), am_ini_ScopeListerModel, by decide +kernel, by decide⟩
theorem iX10_type : Cond.instanceMethod yX10_type ∈ am_T := (am_T_in (i := 1411) (by decide +kernel) rfl)
theorem sX10_type : Cond.selects yX10_type.cls yX10_type yX10_type ∈ am_T := (am_T_in (i := 1412) (by decide +kernel) rfl)
theorem oX10_clearText : am_mok qX10_clearText 0 := ⟨(am_T_in (i := 1424) (by decide +kernel) rfl), am_ini_ScopeListerModel, by decide +kernel, by decide⟩
theorem iX10_clearText : Cond.instanceMethod yX10_clearText ∈ am_T := (am_T_in (i := 1422) (by decide +kernel) rfl)
theorem sX10_clearText : Cond.selects yX10_clearText.cls yX10_clearText yX10_clearText ∈ am_T := (am_T_in (i := 1423) (by decide +kernel) rfl)
theorem oX10_letter : am_mok qX10_letter 1 := ⟨(am_T_in (i := 1444) (by decide +kernel) rfl), am_ini_ScopeListerModel, by decide +kernel, by decide⟩
theorem iX10_letter : Cond.instanceMethod yX10_letter ∈ am_T := (am_T_in (i := 1443) (by decide +kernel) rfl)
theorem sX10_letter : Cond.selects yX10_letter.cls yX10_letter yX10_letter ∈ am_T := (am_T_in (i := 87) (by decide +kernel) rfl)
theorem oX10_isLetter : am_mok qX10_isLetter 1 := ⟨(am_T_in (i := 1440) (by decide +kernel) rfl), am_ini_ScopeListerModel, by decide +kernel, by decide⟩
theorem iX10_isLetter : Cond.instanceMethod yX10_isLetter ∈ am_T := (am_T_in (i := 1439) (by decide +kernel) rfl)
theorem sX10_isLetter : Cond.selects yX10_isLetter.cls yX10_isLetter yX10_isLetter ∈ am_T := (am_T_in (i := 86) (by decide +kernel) rfl)
theorem oX10_isVariable : am_mok qX10_isVariable 1 := ⟨(am_T_in (i := 1456) (by decide +kernel) rfl), am_ini_ScopeListerModel, by decide +kernel, by decide⟩
theorem iX10_isVariable : Cond.instanceMethod yX10_isVariable ∈ am_T := (am_T_in (i := 1455) (by decide +kernel) rfl)
theorem sX10_isVariable : Cond.selects yX10_isVariable.cls yX10_isVariable yX10_isVariable ∈ am_T := (am_T_in (i := 90) (by decide +kernel) rfl)
theorem oX10_wordAt : am_mok qX10_wordAt 2 := ⟨(am_T_in (i := 1448) (by decide +kernel) rfl), am_ini_ScopeListerModel, by decide +kernel, by decide⟩
theorem iX10_wordAt : Cond.instanceMethod yX10_wordAt ∈ am_T := (am_T_in (i := 1447) (by decide +kernel) rfl)
theorem sX10_wordAt : Cond.selects yX10_wordAt.cls yX10_wordAt yX10_wordAt ∈ am_T := (am_T_in (i := 88) (by decide +kernel) rfl)
theorem oX10_passesLetters : am_mok qX10_passesLetters 0 := ⟨(am_T_in (i := 1436) (by decide +kernel) rfl), am_ini_ScopeListerModel, by decide +kernel, by decide⟩
theorem iX10_passesLetters : Cond.instanceMethod yX10_passesLetters ∈ am_T := (am_T_in (i := 1435) (by decide +kernel) rfl)
theorem sX10_passesLetters : Cond.selects yX10_passesLetters.cls yX10_passesLetters yX10_passesLetters ∈ am_T := (am_T_in (i := 85) (by decide +kernel) rfl)
theorem oX10_readsRest : am_mok qX10_readsRest 1 := ⟨(am_T_in (i := 1452) (by decide +kernel) rfl), am_ini_ScopeListerModel, by decide +kernel, by decide⟩
theorem iX10_readsRest : Cond.instanceMethod yX10_readsRest ∈ am_T := (am_T_in (i := 1451) (by decide +kernel) rfl)
theorem sX10_readsRest : Cond.selects yX10_readsRest.cls yX10_readsRest yX10_readsRest ∈ am_T := (am_T_in (i := 89) (by decide +kernel) rfl)
theorem oX10_readsQuantifier : am_mok qX10_readsQuantifier 1 := ⟨(am_T_in (i := 1460) (by decide +kernel) rfl), am_ini_ScopeListerModel, by decide +kernel, by decide⟩
theorem iX10_readsQuantifier : Cond.instanceMethod yX10_readsQuantifier ∈ am_T := (am_T_in (i := 1459) (by decide +kernel) rfl)
theorem sX10_readsQuantifier : Cond.selects yX10_readsQuantifier.cls yX10_readsQuantifier yX10_readsQuantifier ∈ am_T := (am_T_in (i := 91) (by decide +kernel) rfl)
theorem oX10_hasForm : am_mok qX10_hasForm 0 := ⟨(am_T_in (i := 1432) (by decide +kernel) rfl), am_ini_ScopeListerModel, by decide +kernel, by decide⟩
theorem iX10_hasForm : Cond.instanceMethod yX10_hasForm ∈ am_T := (am_T_in (i := 1431) (by decide +kernel) rfl)
theorem sX10_hasForm : Cond.selects yX10_hasForm.cls yX10_hasForm yX10_hasForm ∈ am_T := (am_T_in (i := 84) (by decide +kernel) rfl)
theorem oX10_endOfName : am_mok qX10_endOfName 1 := ⟨(am_T_in (i := 1476) (by decide +kernel) rfl), am_ini_ScopeListerModel, by decide +kernel, by decide⟩
theorem iX10_endOfName : Cond.instanceMethod yX10_endOfName ∈ am_T := (am_T_in (i := 1475) (by decide +kernel) rfl)
theorem sX10_endOfName : Cond.selects yX10_endOfName.cls yX10_endOfName yX10_endOfName ∈ am_T := (am_T_in (i := 95) (by decide +kernel) rfl)
theorem oX10_haveOneName : am_mok qX10_haveOneName 2 := ⟨(am_T_in (i := 1480) (by decide +kernel) rfl), am_ini_ScopeListerModel, by decide +kernel, by decide⟩
theorem iX10_haveOneName : Cond.instanceMethod yX10_haveOneName ∈ am_T := (am_T_in (i := 1479) (by decide +kernel) rfl)
theorem sX10_haveOneName : Cond.selects yX10_haveOneName.cls yX10_haveOneName yX10_haveOneName ∈ am_T := (am_T_in (i := 96) (by decide +kernel) rfl)
theorem oX10_quantifierOf : am_mok qX10_quantifierOf 1 := ⟨(am_T_in (i := 1468) (by decide +kernel) rfl), am_ini_ScopeListerModel, by decide +kernel, by decide⟩
theorem iX10_quantifierOf : Cond.instanceMethod yX10_quantifierOf ∈ am_T := (am_T_in (i := 1467) (by decide +kernel) rfl)
theorem sX10_quantifierOf : Cond.selects yX10_quantifierOf.cls yX10_quantifierOf yX10_quantifierOf ∈ am_T := (am_T_in (i := 93) (by decide +kernel) rfl)
theorem oX10_finds : am_mok qX10_finds 2 := ⟨(am_T_in (i := 1472) (by decide +kernel) rfl), am_ini_ScopeListerModel, by decide +kernel, by decide⟩
theorem iX10_finds : Cond.instanceMethod yX10_finds ∈ am_T := (am_T_in (i := 1471) (by decide +kernel) rfl)
theorem sX10_finds : Cond.selects yX10_finds.cls yX10_finds yX10_finds ∈ am_T := (am_T_in (i := 94) (by decide +kernel) rfl)
theorem oX10_secondError : am_mok qX10_secondError 0 := ⟨(am_T_in (i := 1464) (by decide +kernel) rfl), am_ini_ScopeListerModel, by decide +kernel, by decide⟩
theorem iX10_secondError : Cond.instanceMethod yX10_secondError ∈ am_T := (am_T_in (i := 1463) (by decide +kernel) rfl)
theorem sX10_secondError : Cond.selects yX10_secondError.cls yX10_secondError yX10_secondError ∈ am_T := (am_T_in (i := 92) (by decide +kernel) rfl)
theorem oX10_readSentence : am_mok qX10_readSentence 0 := ⟨(am_T_in (i := 1428) (by decide +kernel) rfl), am_ini_ScopeListerModel, by decide +kernel, by decide⟩
theorem iX10_readSentence : Cond.instanceMethod yX10_readSentence ∈ am_T := (am_T_in (i := 1426) (by decide +kernel) rfl)
theorem sX10_readSentence : Cond.selects yX10_readSentence.cls yX10_readSentence yX10_readSentence ∈ am_T := (am_T_in (i := 1427) (by decide +kernel) rfl)
theorem oX10_takes : am_mok qX10_takes 0 := ⟨(am_T_in (i := 1484) (by decide +kernel) rfl), am_ini_ScopeListerModel, by decide +kernel, by decide⟩
theorem iX10_takes : Cond.instanceMethod yX10_takes ∈ am_T := (am_T_in (i := 1483) (by decide +kernel) rfl)
theorem sX10_takes : Cond.selects yX10_takes.cls yX10_takes yX10_takes ∈ am_T := (am_T_in (i := 97) (by decide +kernel) rfl)
theorem oX10_errorKind : am_mok qX10_errorKind 0 := ⟨(am_T_in (i := 1536) (by decide +kernel) rfl), am_ini_ScopeListerModel, by decide +kernel, by decide⟩
theorem iX10_errorKind : Cond.instanceMethod yX10_errorKind ∈ am_T := (am_T_in (i := 1534) (by decide +kernel) rfl)
theorem sX10_errorKind : Cond.selects yX10_errorKind.cls yX10_errorKind yX10_errorKind ∈ am_T := (am_T_in (i := 1535) (by decide +kernel) rfl)
theorem oX10_holesOf : am_mok qX10_holesOf 1 := ⟨(am_T_in (i := 1520) (by decide +kernel) rfl), am_ini_ScopeListerModel, by decide +kernel, by decide⟩
theorem iX10_holesOf : Cond.instanceMethod yX10_holesOf ∈ am_T := (am_T_in (i := 1519) (by decide +kernel) rfl)
theorem sX10_holesOf : Cond.selects yX10_holesOf.cls yX10_holesOf yX10_holesOf ∈ am_T := (am_T_in (i := 106) (by decide +kernel) rfl)
theorem oX10_isQuantifier : am_mok qX10_isQuantifier 1 := ⟨(am_T_in (i := 1504) (by decide +kernel) rfl), am_ini_ScopeListerModel, by decide +kernel, by decide⟩
theorem iX10_isQuantifier : Cond.instanceMethod yX10_isQuantifier ∈ am_T := (am_T_in (i := 1503) (by decide +kernel) rfl)
theorem sX10_isQuantifier : Cond.selects yX10_isQuantifier.cls yX10_isQuantifier yX10_isQuantifier ∈ am_T := (am_T_in (i := 102) (by decide +kernel) rfl)
theorem oX10_leads : am_mok qX10_leads 2 := ⟨(am_T_in (i := 1500) (by decide +kernel) rfl), am_ini_ScopeListerModel, by decide +kernel, by decide⟩
theorem iX10_leads : Cond.instanceMethod yX10_leads ∈ am_T := (am_T_in (i := 1499) (by decide +kernel) rfl)
theorem sX10_leads : Cond.selects yX10_leads.cls yX10_leads yX10_leads ∈ am_T := (am_T_in (i := 101) (by decide +kernel) rfl)
theorem oX10_laysEdges : am_mok qX10_laysEdges 0 := ⟨(am_T_in (i := 1496) (by decide +kernel) rfl), am_ini_ScopeListerModel, by decide +kernel, by decide⟩
theorem iX10_laysEdges : Cond.instanceMethod yX10_laysEdges ∈ am_T := (am_T_in (i := 1495) (by decide +kernel) rfl)
theorem sX10_laysEdges : Cond.selects yX10_laysEdges.cls yX10_laysEdges yX10_laysEdges ∈ am_T := (am_T_in (i := 100) (by decide +kernel) rfl)
theorem oX10_isFragment : am_mok qX10_isFragment 1 := ⟨(am_T_in (i := 1548) (by decide +kernel) rfl), am_ini_ScopeListerModel, by decide +kernel, by decide⟩
theorem iX10_isFragment : Cond.instanceMethod yX10_isFragment ∈ am_T := (am_T_in (i := 1547) (by decide +kernel) rfl)
theorem sX10_isFragment : Cond.selects yX10_isFragment.cls yX10_isFragment yX10_isFragment ∈ am_T := (am_T_in (i := 110) (by decide +kernel) rfl)
theorem oX10_isHole : am_mok qX10_isHole 2 := ⟨(am_T_in (i := 1556) (by decide +kernel) rfl), am_ini_ScopeListerModel, by decide +kernel, by decide⟩
theorem iX10_isHole : Cond.instanceMethod yX10_isHole ∈ am_T := (am_T_in (i := 1555) (by decide +kernel) rfl)
theorem sX10_isHole : Cond.selects yX10_isHole.cls yX10_isHole yX10_isHole ∈ am_T := (am_T_in (i := 111) (by decide +kernel) rfl)
theorem oX10_fragments : am_mok qX10_fragments 0 := ⟨(am_T_in (i := 1540) (by decide +kernel) rfl), am_ini_ScopeListerModel, by decide +kernel, by decide⟩
theorem iX10_fragments : Cond.instanceMethod yX10_fragments ∈ am_T := (am_T_in (i := 1538) (by decide +kernel) rfl)
theorem sX10_fragments : Cond.selects yX10_fragments.cls yX10_fragments yX10_fragments ∈ am_T := (am_T_in (i := 1539) (by decide +kernel) rfl)
theorem oX10_kindOf : am_mok qX10_kindOf 1 := ⟨(am_T_in (i := 1544) (by decide +kernel) rfl), am_ini_ScopeListerModel, by decide +kernel, by decide⟩
theorem iX10_kindOf : Cond.instanceMethod yX10_kindOf ∈ am_T := (am_T_in (i := 1542) (by decide +kernel) rfl)
theorem sX10_kindOf : Cond.selects yX10_kindOf.cls yX10_kindOf yX10_kindOf ∈ am_T := (am_T_in (i := 1543) (by decide +kernel) rfl)
theorem oX10_hasEdge : am_mok qX10_hasEdge 3 := ⟨(am_T_in (i := 1552) (by decide +kernel) rfl), am_ini_ScopeListerModel, by decide +kernel, by decide⟩
theorem iX10_hasEdge : Cond.instanceMethod yX10_hasEdge ∈ am_T := (am_T_in (i := 1550) (by decide +kernel) rfl)
theorem sX10_hasEdge : Cond.selects yX10_hasEdge.cls yX10_hasEdge yX10_hasEdge ∈ am_T := (am_T_in (i := 1551) (by decide +kernel) rfl)
theorem oX10_constrain : am_mok qX10_constrain 3 := ⟨(am_T_in (i := 1560) (by decide +kernel) rfl), am_ini_ScopeListerModel, by decide +kernel, by decide⟩
theorem iX10_constrain : Cond.instanceMethod yX10_constrain ∈ am_T := (am_T_in (i := 1558) (by decide +kernel) rfl)
theorem sX10_constrain : Cond.selects yX10_constrain.cls yX10_constrain yX10_constrain ∈ am_T := (am_T_in (i := 1559) (by decide +kernel) rfl)
theorem oX10_release : am_mok qX10_release 0 := ⟨(am_T_in (i := 1564) (by decide +kernel) rfl), am_ini_ScopeListerModel, by decide +kernel, by decide⟩
theorem iX10_release : Cond.instanceMethod yX10_release ∈ am_T := (am_T_in (i := 1562) (by decide +kernel) rfl)
theorem sX10_release : Cond.selects yX10_release.cls yX10_release yX10_release ∈ am_T := (am_T_in (i := 1563) (by decide +kernel) rfl)
theorem oX10_opens : am_mok qX10_opens 1 := ⟨(am_T_in (i := 1516) (by decide +kernel) rfl), am_ini_ScopeListerModel, by decide +kernel, by decide⟩
theorem iX10_opens : Cond.instanceMethod yX10_opens ∈ am_T := (am_T_in (i := 1515) (by decide +kernel) rfl)
theorem sX10_opens : Cond.selects yX10_opens.cls yX10_opens yX10_opens ∈ am_T := (am_T_in (i := 105) (by decide +kernel) rfl)
theorem oX10_isAbove : am_mok qX10_isAbove 2 := ⟨(am_T_in (i := 1524) (by decide +kernel) rfl), am_ini_ScopeListerModel, by decide +kernel, by decide⟩
theorem iX10_isAbove : Cond.instanceMethod yX10_isAbove ∈ am_T := (am_T_in (i := 1523) (by decide +kernel) rfl)
theorem sX10_isAbove : Cond.selects yX10_isAbove.cls yX10_isAbove yX10_isAbove ∈ am_T := (am_T_in (i := 107) (by decide +kernel) rfl)
theorem oX10_isOnPile : am_mok qX10_isOnPile 1 := ⟨(am_T_in (i := 1528) (by decide +kernel) rfl), am_ini_ScopeListerModel, by decide +kernel, by decide⟩
theorem iX10_isOnPile : Cond.instanceMethod yX10_isOnPile ∈ am_T := (am_T_in (i := 1527) (by decide +kernel) rfl)
theorem sX10_isOnPile : Cond.selects yX10_isOnPile.cls yX10_isOnPile yX10_isOnPile ∈ am_T := (am_T_in (i := 108) (by decide +kernel) rfl)
theorem oX10_mayStand : am_mok qX10_mayStand 1 := ⟨(am_T_in (i := 1512) (by decide +kernel) rfl), am_ini_ScopeListerModel, by decide +kernel, by decide⟩
theorem iX10_mayStand : Cond.instanceMethod yX10_mayStand ∈ am_T := (am_T_in (i := 1511) (by decide +kernel) rfl)
theorem sX10_mayStand : Cond.selects yX10_mayStand.cls yX10_mayStand yX10_mayStand ∈ am_T := (am_T_in (i := 104) (by decide +kernel) rfl)
theorem oX10_isUsed : am_mok qX10_isUsed 2 := ⟨(am_T_in (i := 1508) (by decide +kernel) rfl), am_ini_ScopeListerModel, by decide +kernel, by decide⟩
theorem iX10_isUsed : Cond.instanceMethod yX10_isUsed ∈ am_T := (am_T_in (i := 1507) (by decide +kernel) rfl)
theorem sX10_isUsed : Cond.selects yX10_isUsed.cls yX10_isUsed yX10_isUsed ∈ am_T := (am_T_in (i := 103) (by decide +kernel) rfl)
theorem oX10_keepsReading : am_mok qX10_keepsReading 0 := ⟨(am_T_in (i := 1532) (by decide +kernel) rfl), am_ini_ScopeListerModel, by decide +kernel, by decide⟩
theorem iX10_keepsReading : Cond.instanceMethod yX10_keepsReading ∈ am_T := (am_T_in (i := 1531) (by decide +kernel) rfl)
theorem sX10_keepsReading : Cond.selects yX10_keepsReading.cls yX10_keepsReading yX10_keepsReading ∈ am_T := (am_T_in (i := 109) (by decide +kernel) rfl)
theorem oX10_lists : am_mok qX10_lists 0 := ⟨(am_T_in (i := 1492) (by decide +kernel) rfl), am_ini_ScopeListerModel, by decide +kernel, by decide⟩
theorem iX10_lists : Cond.instanceMethod yX10_lists ∈ am_T := (am_T_in (i := 1491) (by decide +kernel) rfl)
theorem sX10_lists : Cond.selects yX10_lists.cls yX10_lists yX10_lists ∈ am_T := (am_T_in (i := 99) (by decide +kernel) rfl)
theorem oX10_isReading : am_mok qX10_isReading 1 := ⟨(am_T_in (i := 1580) (by decide +kernel) rfl), am_ini_ScopeListerModel, by decide +kernel, by decide⟩
theorem iX10_isReading : Cond.instanceMethod yX10_isReading ∈ am_T := (am_T_in (i := 1579) (by decide +kernel) rfl)
theorem sX10_isReading : Cond.selects yX10_isReading.cls yX10_isReading yX10_isReading ∈ am_T := (am_T_in (i := 113) (by decide +kernel) rfl)
theorem oX10_lacksSentence : am_mok qX10_lacksSentence 1 := ⟨(am_T_in (i := 1572) (by decide +kernel) rfl), am_ini_ScopeListerModel, by decide +kernel, by decide⟩
theorem iX10_lacksSentence : Cond.instanceMethod yX10_lacksSentence ∈ am_T := (am_T_in (i := 1571) (by decide +kernel) rfl)
theorem sX10_lacksSentence : Cond.selects yX10_lacksSentence.cls yX10_lacksSentence yX10_lacksSentence ∈ am_T := (am_T_in (i := 112) (by decide +kernel) rfl)
theorem oX10_readings : am_mok qX10_readings 0 := ⟨(am_T_in (i := 1568) (by decide +kernel) rfl), am_ini_ScopeListerModel, by decide +kernel, by decide⟩
theorem iX10_readings : Cond.instanceMethod yX10_readings ∈ am_T := (am_T_in (i := 1566) (by decide +kernel) rfl)
theorem sX10_readings : Cond.selects yX10_readings.cls yX10_readings yX10_readings ∈ am_T := (am_T_in (i := 1567) (by decide +kernel) rfl)
theorem oX10_place : am_mok qX10_place 2 := ⟨(am_T_in (i := 1576) (by decide +kernel) rfl), am_ini_ScopeListerModel, by decide +kernel, by decide⟩
theorem iX10_place : Cond.instanceMethod yX10_place ∈ am_T := (am_T_in (i := 1574) (by decide +kernel) rfl)
theorem sX10_place : Cond.selects yX10_place.cls yX10_place yX10_place ∈ am_T := (am_T_in (i := 1575) (by decide +kernel) rfl)
theorem oX10_plug : am_mok qX10_plug 3 := ⟨(am_T_in (i := 1584) (by decide +kernel) rfl), am_ini_ScopeListerModel, by decide +kernel, by decide⟩
theorem iX10_plug : Cond.instanceMethod yX10_plug ∈ am_T := (am_T_in (i := 1582) (by decide +kernel) rfl)
theorem sX10_plug : Cond.selects yX10_plug.cls yX10_plug yX10_plug ∈ am_T := (am_T_in (i := 1583) (by decide +kernel) rfl)
theorem oX10_holeIn : am_mok qX10_holeIn 2 := ⟨(am_T_in (i := 1596) (by decide +kernel) rfl), am_ini_ScopeListerModel, by decide +kernel, by decide⟩
theorem iX10_holeIn : Cond.instanceMethod yX10_holeIn ∈ am_T := (am_T_in (i := 1595) (by decide +kernel) rfl)
theorem sX10_holeIn : Cond.selects yX10_holeIn.cls yX10_holeIn yX10_holeIn ∈ am_T := (am_T_in (i := 115) (by decide +kernel) rfl)
theorem oX10_upperOf : am_mok qX10_upperOf 2 := ⟨(am_T_in (i := 1592) (by decide +kernel) rfl), am_ini_ScopeListerModel, by decide +kernel, by decide⟩
theorem iX10_upperOf : Cond.instanceMethod yX10_upperOf ∈ am_T := (am_T_in (i := 1591) (by decide +kernel) rfl)
theorem sX10_upperOf : Cond.selects yX10_upperOf.cls yX10_upperOf yX10_upperOf ∈ am_T := (am_T_in (i := 114) (by decide +kernel) rfl)
theorem oX10_above : am_mok qX10_above 2 := ⟨(am_T_in (i := 1588) (by decide +kernel) rfl), am_ini_ScopeListerModel, by decide +kernel, by decide⟩
theorem iX10_above : Cond.instanceMethod yX10_above ∈ am_T := (am_T_in (i := 1586) (by decide +kernel) rfl)
theorem sX10_above : Cond.selects yX10_above.cls yX10_above yX10_above ∈ am_T := (am_T_in (i := 1587) (by decide +kernel) rfl)
theorem oX10_polarityOf : am_mok qX10_polarityOf 2 := ⟨(am_T_in (i := 1604) (by decide +kernel) rfl), am_ini_ScopeListerModel, by decide +kernel, by decide⟩
theorem iX10_polarityOf : Cond.instanceMethod yX10_polarityOf ∈ am_T := (am_T_in (i := 1603) (by decide +kernel) rfl)
theorem sX10_polarityOf : Cond.selects yX10_polarityOf.cls yX10_polarityOf yX10_polarityOf ∈ am_T := (am_T_in (i := 116) (by decide +kernel) rfl)
theorem oX10_polarity : am_mok qX10_polarity 2 := ⟨(am_T_in (i := 1600) (by decide +kernel) rfl), am_ini_ScopeListerModel, by decide +kernel, by decide⟩
theorem iX10_polarity : Cond.instanceMethod yX10_polarity ∈ am_T := (am_T_in (i := 1598) (by decide +kernel) rfl)
theorem sX10_polarity : Cond.selects yX10_polarity.cls yX10_polarity yX10_polarity ∈ am_T := (am_T_in (i := 1599) (by decide +kernel) rfl)
theorem oX10_isBelow : am_mok qX10_isBelow 3 := ⟨(am_T_in (i := 1612) (by decide +kernel) rfl), am_ini_ScopeListerModel, by decide +kernel, by decide⟩
theorem iX10_isBelow : Cond.instanceMethod yX10_isBelow ∈ am_T := (am_T_in (i := 1611) (by decide +kernel) rfl)
theorem sX10_isBelow : Cond.selects yX10_isBelow.cls yX10_isBelow yX10_isBelow ∈ am_T := (am_T_in (i := 117) (by decide +kernel) rfl)
theorem oX10_countBelow : am_mok qX10_countBelow 2 := ⟨(am_T_in (i := 1608) (by decide +kernel) rfl), am_ini_ScopeListerModel, by decide +kernel, by decide⟩
theorem iX10_countBelow : Cond.instanceMethod yX10_countBelow ∈ am_T := (am_T_in (i := 1606) (by decide +kernel) rfl)
theorem sX10_countBelow : Cond.selects yX10_countBelow.cls yX10_countBelow yX10_countBelow ∈ am_T := (am_T_in (i := 1607) (by decide +kernel) rfl)
theorem oX10_nextBelow : am_mok qX10_nextBelow 3 := ⟨(am_T_in (i := 1616) (by decide +kernel) rfl), am_ini_ScopeListerModel, by decide +kernel, by decide⟩
theorem iX10_nextBelow : Cond.instanceMethod yX10_nextBelow ∈ am_T := (am_T_in (i := 1614) (by decide +kernel) rfl)
theorem sX10_nextBelow : Cond.selects yX10_nextBelow.cls yX10_nextBelow yX10_nextBelow ∈ am_T := (am_T_in (i := 1615) (by decide +kernel) rfl)
theorem oX10_tells : am_mok qX10_tells 1 := ⟨(am_T_in (i := 1632) (by decide +kernel) rfl), am_ini_ScopeListerModel, by decide +kernel, by decide⟩
theorem iX10_tells : Cond.instanceMethod yX10_tells ∈ am_T := (am_T_in (i := 1631) (by decide +kernel) rfl)
theorem sX10_tells : Cond.selects yX10_tells.cls yX10_tells yX10_tells ∈ am_T := (am_T_in (i := 120) (by decide +kernel) rfl)
theorem oX10_tellsHead : am_mok qX10_tellsHead 1 := ⟨(am_T_in (i := 1628) (by decide +kernel) rfl), am_ini_ScopeListerModel, by decide +kernel, by decide⟩
theorem iX10_tellsHead : Cond.instanceMethod yX10_tellsHead ∈ am_T := (am_T_in (i := 1627) (by decide +kernel) rfl)
theorem sX10_tellsHead : Cond.selects yX10_tellsHead.cls yX10_tellsHead yX10_tellsHead ∈ am_T := (am_T_in (i := 119) (by decide +kernel) rfl)
theorem oX10_tellsReading : am_mok qX10_tellsReading 1 := ⟨(am_T_in (i := 1624) (by decide +kernel) rfl), am_ini_ScopeListerModel, by decide +kernel, by decide⟩
theorem iX10_tellsReading : Cond.instanceMethod yX10_tellsReading ∈ am_T := (am_T_in (i := 1623) (by decide +kernel) rfl)
theorem sX10_tellsReading : Cond.selects yX10_tellsReading.cls yX10_tellsReading yX10_tellsReading ∈ am_T := (am_T_in (i := 118) (by decide +kernel) rfl)
theorem oX10_formulaChar : am_mok qX10_formulaChar 2 := ⟨(am_T_in (i := 1620) (by decide +kernel) rfl), am_ini_ScopeListerModel, by decide +kernel, by decide⟩
theorem iX10_formulaChar : Cond.instanceMethod yX10_formulaChar ∈ am_T := (am_T_in (i := 1618) (by decide +kernel) rfl)
theorem sX10_formulaChar : Cond.selects yX10_formulaChar.cls yX10_formulaChar yX10_formulaChar ∈ am_T := (am_T_in (i := 1619) (by decide +kernel) rfl)
theorem oX10_findsSwapped : am_mok qX10_findsSwapped 0 := ⟨(am_T_in (i := 1656) (by decide +kernel) rfl), am_ini_ScopeListerModel, by decide +kernel, by decide⟩
theorem iX10_findsSwapped : Cond.instanceMethod yX10_findsSwapped ∈ am_T := (am_T_in (i := 1655) (by decide +kernel) rfl)
theorem sX10_findsSwapped : Cond.selects yX10_findsSwapped.cls yX10_findsSwapped yX10_findsSwapped ∈ am_T := (am_T_in (i := 125) (by decide +kernel) rfl)
theorem oX10_swaps : am_mok qX10_swaps 3 := ⟨(am_T_in (i := 1652) (by decide +kernel) rfl), am_ini_ScopeListerModel, by decide +kernel, by decide⟩
theorem iX10_swaps : Cond.instanceMethod yX10_swaps ∈ am_T := (am_T_in (i := 1651) (by decide +kernel) rfl)
theorem sX10_swaps : Cond.selects yX10_swaps.cls yX10_swaps yX10_swaps ∈ am_T := (am_T_in (i := 124) (by decide +kernel) rfl)
theorem oX10_isStep : am_mok qX10_isStep 3 := ⟨(am_T_in (i := 1648) (by decide +kernel) rfl), am_ini_ScopeListerModel, by decide +kernel, by decide⟩
theorem iX10_isStep : Cond.instanceMethod yX10_isStep ∈ am_T := (am_T_in (i := 1647) (by decide +kernel) rfl)
theorem sX10_isStep : Cond.selects yX10_isStep.cls yX10_isStep yX10_isStep ∈ am_T := (am_T_in (i := 123) (by decide +kernel) rfl)
theorem oX10_findsSteps : am_mok qX10_findsSteps 0 := ⟨(am_T_in (i := 1644) (by decide +kernel) rfl), am_ini_ScopeListerModel, by decide +kernel, by decide⟩
theorem iX10_findsSteps : Cond.instanceMethod yX10_findsSteps ∈ am_T := (am_T_in (i := 1643) (by decide +kernel) rfl)
theorem sX10_findsSteps : Cond.selects yX10_findsSteps.cls yX10_findsSteps yX10_findsSteps ∈ am_T := (am_T_in (i := 122) (by decide +kernel) rfl)
theorem oX10_goesFrom : am_mok qX10_goesFrom 1 := ⟨(am_T_in (i := 1660) (by decide +kernel) rfl), am_ini_ScopeListerModel, by decide +kernel, by decide⟩
theorem iX10_goesFrom : Cond.instanceMethod yX10_goesFrom ∈ am_T := (am_T_in (i := 1659) (by decide +kernel) rfl)
theorem sX10_goesFrom : Cond.selects yX10_goesFrom.cls yX10_goesFrom yX10_goesFrom ∈ am_T := (am_T_in (i := 126) (by decide +kernel) rfl)
theorem oX10_comesFrom : am_mok qX10_comesFrom 1 := ⟨(am_T_in (i := 1664) (by decide +kernel) rfl), am_ini_ScopeListerModel, by decide +kernel, by decide⟩
theorem iX10_comesFrom : Cond.instanceMethod yX10_comesFrom ∈ am_T := (am_T_in (i := 1663) (by decide +kernel) rfl)
theorem sX10_comesFrom : Cond.selects yX10_comesFrom.cls yX10_comesFrom yX10_comesFrom ∈ am_T := (am_T_in (i := 127) (by decide +kernel) rfl)
theorem oX10_sorts : am_mok qX10_sorts 0 := ⟨(am_T_in (i := 1640) (by decide +kernel) rfl), am_ini_ScopeListerModel, by decide +kernel, by decide⟩
theorem iX10_sorts : Cond.instanceMethod yX10_sorts ∈ am_T := (am_T_in (i := 1639) (by decide +kernel) rfl)
theorem sX10_sorts : Cond.selects yX10_sorts.cls yX10_sorts yX10_sorts ∈ am_T := (am_T_in (i := 121) (by decide +kernel) rfl)
theorem oX10_entails : am_mok qX10_entails 2 := ⟨(am_T_in (i := 1636) (by decide +kernel) rfl), am_ini_ScopeListerModel, by decide +kernel, by decide⟩
theorem iX10_entails : Cond.instanceMethod yX10_entails ∈ am_T := (am_T_in (i := 1634) (by decide +kernel) rfl)
theorem sX10_entails : Cond.selects yX10_entails.cls yX10_entails yX10_entails ∈ am_T := (am_T_in (i := 1635) (by decide +kernel) rfl)
theorem oX10_classOf : am_mok qX10_classOf 1 := ⟨(am_T_in (i := 1668) (by decide +kernel) rfl), am_ini_ScopeListerModel, by decide +kernel, by decide⟩
theorem iX10_classOf : Cond.instanceMethod yX10_classOf ∈ am_T := (am_T_in (i := 1666) (by decide +kernel) rfl)
theorem sX10_classOf : Cond.selects yX10_classOf.cls yX10_classOf yX10_classOf ∈ am_T := (am_T_in (i := 1667) (by decide +kernel) rfl)
theorem oX10_classes : am_mok qX10_classes 0 := ⟨(am_T_in (i := 1672) (by decide +kernel) rfl), am_ini_ScopeListerModel, by decide +kernel, by decide⟩
theorem iX10_classes : Cond.instanceMethod yX10_classes ∈ am_T := (am_T_in (i := 1670) (by decide +kernel) rfl)
theorem sX10_classes : Cond.selects yX10_classes.cls yX10_classes yX10_classes ∈ am_T := (am_T_in (i := 1671) (by decide +kernel) rfl)
theorem oX10_isWeak : am_mok qX10_isWeak 1 := ⟨(am_T_in (i := 1676) (by decide +kernel) rfl), am_ini_ScopeListerModel, by decide +kernel, by decide⟩
theorem iX10_isWeak : Cond.instanceMethod yX10_isWeak ∈ am_T := (am_T_in (i := 1674) (by decide +kernel) rfl)
theorem sX10_isWeak : Cond.selects yX10_isWeak.cls yX10_isWeak yX10_isWeak ∈ am_T := (am_T_in (i := 1675) (by decide +kernel) rfl)
theorem oX10_strongest : am_mok qX10_strongest 0 := ⟨(am_T_in (i := 1680) (by decide +kernel) rfl), am_ini_ScopeListerModel, by decide +kernel, by decide⟩
theorem iX10_strongest : Cond.instanceMethod yX10_strongest ∈ am_T := (am_T_in (i := 1678) (by decide +kernel) rfl)
theorem sX10_strongest : Cond.selects yX10_strongest.cls yX10_strongest yX10_strongest ∈ am_T := (am_T_in (i := 1679) (by decide +kernel) rfl)
theorem oX10_forgets : am_mok qX10_forgets 0 := ⟨(am_T_in (i := 1488) (by decide +kernel) rfl), am_ini_ScopeListerModel, by decide +kernel, by decide⟩
theorem iX10_forgets : Cond.instanceMethod yX10_forgets ∈ am_T := (am_T_in (i := 1487) (by decide +kernel) rfl)
theorem sX10_forgets : Cond.selects yX10_forgets.cls yX10_forgets yX10_forgets ∈ am_T := (am_T_in (i := 98) (by decide +kernel) rfl)
theorem oX10_setDomain : am_mok qX10_setDomain 1 := ⟨(am_T_in (i := 1684) (by decide +kernel) rfl), am_ini_ScopeListerModel, by decide +kernel, by decide⟩
theorem iX10_setDomain : Cond.instanceMethod yX10_setDomain ∈ am_T := (am_T_in (i := 1682) (by decide +kernel) rfl)
theorem sX10_setDomain : Cond.selects yX10_setDomain.cls yX10_setDomain yX10_setDomain ∈ am_T := (am_T_in (i := 1683) (by decide +kernel) rfl)
theorem oX10_predicates : am_mok qX10_predicates 0 := ⟨(am_T_in (i := 1688) (by decide +kernel) rfl), am_ini_ScopeListerModel, by decide +kernel, by decide⟩
theorem iX10_predicates : Cond.instanceMethod yX10_predicates ∈ am_T := (am_T_in (i := 1686) (by decide +kernel) rfl)
theorem sX10_predicates : Cond.selects yX10_predicates.cls yX10_predicates yX10_predicates ∈ am_T := (am_T_in (i := 1687) (by decide +kernel) rfl)
theorem oX10_arity : am_mok qX10_arity 1 := ⟨(am_T_in (i := 1692) (by decide +kernel) rfl), am_ini_ScopeListerModel, by decide +kernel, by decide⟩
theorem iX10_arity : Cond.instanceMethod yX10_arity ∈ am_T := (am_T_in (i := 1690) (by decide +kernel) rfl)
theorem sX10_arity : Cond.selects yX10_arity.cls yX10_arity yX10_arity ∈ am_T := (am_T_in (i := 1691) (by decide +kernel) rfl)
theorem oX10_setFact : am_mok qX10_setFact 4 := ⟨(am_T_in (i := 1696) (by decide +kernel) rfl), am_ini_ScopeListerModel, by decide +kernel, by decide⟩
theorem iX10_setFact : Cond.instanceMethod yX10_setFact ∈ am_T := (am_T_in (i := 1694) (by decide +kernel) rfl)
theorem sX10_setFact : Cond.selects yX10_setFact.cls yX10_setFact yX10_setFact ∈ am_T := (am_T_in (i := 1695) (by decide +kernel) rfl)
theorem oX10_weightOf : am_mok qX10_weightOf 1 := ⟨(am_T_in (i := 1712) (by decide +kernel) rfl), am_ini_ScopeListerModel, by decide +kernel, by decide⟩
theorem iX10_weightOf : Cond.instanceMethod yX10_weightOf ∈ am_T := (am_T_in (i := 1711) (by decide +kernel) rfl)
theorem sX10_weightOf : Cond.selects yX10_weightOf.cls yX10_weightOf yX10_weightOf ∈ am_T := (am_T_in (i := 130) (by decide +kernel) rfl)
theorem oX10_isFact : am_mok qX10_isFact 2 := ⟨(am_T_in (i := 1708) (by decide +kernel) rfl), am_ini_ScopeListerModel, by decide +kernel, by decide⟩
theorem iX10_isFact : Cond.instanceMethod yX10_isFact ∈ am_T := (am_T_in (i := 1707) (by decide +kernel) rfl)
theorem sX10_isFact : Cond.selects yX10_isFact.cls yX10_isFact yX10_isFact ∈ am_T := (am_T_in (i := 129) (by decide +kernel) rfl)
theorem oX10_holds : am_mok qX10_holds 3 := ⟨(am_T_in (i := 1716) (by decide +kernel) rfl), am_ini_ScopeListerModel, by decide +kernel, by decide⟩
theorem iX10_holds : Cond.instanceMethod yX10_holds ∈ am_T := (am_T_in (i := 1715) (by decide +kernel) rfl)
theorem sX10_holds : Cond.selects yX10_holds.cls yX10_holds yX10_holds ∈ am_T := (am_T_in (i := 131) (by decide +kernel) rfl)
theorem oX10_truthOf : am_mok qX10_truthOf 1 := ⟨(am_T_in (i := 1704) (by decide +kernel) rfl), am_ini_ScopeListerModel, by decide +kernel, by decide⟩
theorem iX10_truthOf : Cond.instanceMethod yX10_truthOf ∈ am_T := (am_T_in (i := 1703) (by decide +kernel) rfl)
theorem sX10_truthOf : Cond.selects yX10_truthOf.cls yX10_truthOf yX10_truthOf ∈ am_T := (am_T_in (i := 128) (by decide +kernel) rfl)
theorem oX10_truth : am_mok qX10_truth 1 := ⟨(am_T_in (i := 1700) (by decide +kernel) rfl), am_ini_ScopeListerModel, by decide +kernel, by decide⟩
theorem iX10_truth : Cond.instanceMethod yX10_truth ∈ am_T := (am_T_in (i := 1698) (by decide +kernel) rfl)
theorem sX10_truth : Cond.selects yX10_truth.cls yX10_truth yX10_truth ∈ am_T := (am_T_in (i := 1699) (by decide +kernel) rfl)
theorem oX10_trueReadings : am_mok qX10_trueReadings 0 := ⟨(am_T_in (i := 1720) (by decide +kernel) rfl), am_ini_ScopeListerModel, by decide +kernel, by decide⟩
theorem iX10_trueReadings : Cond.instanceMethod yX10_trueReadings ∈ am_T := (am_T_in (i := 1718) (by decide +kernel) rfl)
theorem sX10_trueReadings : Cond.selects yX10_trueReadings.cls yX10_trueReadings yX10_trueReadings ∈ am_T := (am_T_in (i := 1719) (by decide +kernel) rfl)
theorem oX10_nextDifferent : am_mok qX10_nextDifferent 1 := ⟨(am_T_in (i := 1724) (by decide +kernel) rfl), am_ini_ScopeListerModel, by decide +kernel, by decide⟩
theorem iX10_nextDifferent : Cond.instanceMethod yX10_nextDifferent ∈ am_T := (am_T_in (i := 1722) (by decide +kernel) rfl)
theorem sX10_nextDifferent : Cond.selects yX10_nextDifferent.cls yX10_nextDifferent yX10_nextDifferent ∈ am_T := (am_T_in (i := 1723) (by decide +kernel) rfl)
theorem oX10_fingerprint : am_mok qX10_fingerprint 0 := ⟨(am_T_in (i := 1728) (by decide +kernel) rfl), am_ini_ScopeListerModel, by decide +kernel, by decide⟩
theorem iX10_fingerprint : Cond.instanceMethod yX10_fingerprint ∈ am_T := (am_T_in (i := 1726) (by decide +kernel) rfl)
theorem sX10_fingerprint : Cond.selects yX10_fingerprint.cls yX10_fingerprint yX10_fingerprint ∈ am_T := (am_T_in (i := 1727) (by decide +kernel) rfl)
theorem oL_type : am_mok qL_type 3 := ⟨(am_T_in (i := 881) (by decide +kernel) rfl), am_ini_ScopeListerLaw, by decide +kernel, by decide⟩
theorem tL_type : Cond.static yL_type ∈ am_T := (am_T_in (i := 880) (by decide +kernel) rfl)
theorem oL_kindOf : am_mok qL_kindOf 3 := ⟨(am_T_in (i := 973) (by decide +kernel) rfl), am_ini_ScopeListerLaw, by decide +kernel, by decide⟩
theorem tL_kindOf : Cond.static yL_kindOf ∈ am_T := (am_T_in (i := 972) (by decide +kernel) rfl)
theorem oL_hasEdge : am_mok qL_hasEdge 5 := ⟨(am_T_in (i := 1001) (by decide +kernel) rfl), am_ini_ScopeListerLaw, by decide +kernel, by decide⟩
theorem tL_hasEdge : Cond.static yL_hasEdge ∈ am_T := (am_T_in (i := 1000) (by decide +kernel) rfl)
theorem oL_constrain : am_mok qL_constrain 5 := ⟨(am_T_in (i := 1016) (by decide +kernel) rfl), am_ini_ScopeListerLaw, by decide +kernel, by decide⟩
theorem tL_constrain : Cond.static yL_constrain ∈ am_T := (am_T_in (i := 1015) (by decide +kernel) rfl)
theorem oL_release : am_mok qL_release 2 := ⟨(am_T_in (i := 1028) (by decide +kernel) rfl), am_ini_ScopeListerLaw, by decide +kernel, by decide⟩
theorem tL_release : Cond.static yL_release ∈ am_T := (am_T_in (i := 1027) (by decide +kernel) rfl)
theorem oL_readings : am_mok qL_readings 2 := ⟨(am_T_in (i := 1040) (by decide +kernel) rfl), am_ini_ScopeListerLaw, by decide +kernel, by decide⟩
theorem tL_readings : Cond.static yL_readings ∈ am_T := (am_T_in (i := 1039) (by decide +kernel) rfl)
theorem oL_place : am_mok qL_place 4 := ⟨(am_T_in (i := 1052) (by decide +kernel) rfl), am_ini_ScopeListerLaw, by decide +kernel, by decide⟩
theorem tL_place : Cond.static yL_place ∈ am_T := (am_T_in (i := 1051) (by decide +kernel) rfl)
theorem oL_plug : am_mok qL_plug 5 := ⟨(am_T_in (i := 1069) (by decide +kernel) rfl), am_ini_ScopeListerLaw, by decide +kernel, by decide⟩
theorem tL_plug : Cond.static yL_plug ∈ am_T := (am_T_in (i := 1068) (by decide +kernel) rfl)
theorem oL_above : am_mok qL_above 4 := ⟨(am_T_in (i := 1076) (by decide +kernel) rfl), am_ini_ScopeListerLaw, by decide +kernel, by decide⟩
theorem tL_above : Cond.static yL_above ∈ am_T := (am_T_in (i := 1075) (by decide +kernel) rfl)
theorem oL_polarity : am_mok qL_polarity 4 := ⟨(am_T_in (i := 1087) (by decide +kernel) rfl), am_ini_ScopeListerLaw, by decide +kernel, by decide⟩
theorem tL_polarity : Cond.static yL_polarity ∈ am_T := (am_T_in (i := 1086) (by decide +kernel) rfl)
theorem oL_countBelow : am_mok qL_countBelow 4 := ⟨(am_T_in (i := 1094) (by decide +kernel) rfl), am_ini_ScopeListerLaw, by decide +kernel, by decide⟩
theorem tL_countBelow : Cond.static yL_countBelow ∈ am_T := (am_T_in (i := 1093) (by decide +kernel) rfl)
theorem oL_nextBelow : am_mok qL_nextBelow 5 := ⟨(am_T_in (i := 1106) (by decide +kernel) rfl), am_ini_ScopeListerLaw, by decide +kernel, by decide⟩
theorem tL_nextBelow : Cond.static yL_nextBelow ∈ am_T := (am_T_in (i := 1105) (by decide +kernel) rfl)
theorem oL_formulaChar : am_mok qL_formulaChar 4 := ⟨(am_T_in (i := 1118) (by decide +kernel) rfl), am_ini_ScopeListerLaw, by decide +kernel, by decide⟩
theorem tL_formulaChar : Cond.static yL_formulaChar ∈ am_T := (am_T_in (i := 1117) (by decide +kernel) rfl)
theorem oL_entails : am_mok qL_entails 4 := ⟨(am_T_in (i := 1150) (by decide +kernel) rfl), am_ini_ScopeListerLaw, by decide +kernel, by decide⟩
theorem tL_entails : Cond.static yL_entails ∈ am_T := (am_T_in (i := 1149) (by decide +kernel) rfl)
theorem oL_classOf : am_mok qL_classOf 3 := ⟨(am_T_in (i := 1162) (by decide +kernel) rfl), am_ini_ScopeListerLaw, by decide +kernel, by decide⟩
theorem tL_classOf : Cond.static yL_classOf ∈ am_T := (am_T_in (i := 1161) (by decide +kernel) rfl)
theorem oL_classes : am_mok qL_classes 2 := ⟨(am_T_in (i := 1169) (by decide +kernel) rfl), am_ini_ScopeListerLaw, by decide +kernel, by decide⟩
theorem tL_classes : Cond.static yL_classes ∈ am_T := (am_T_in (i := 1168) (by decide +kernel) rfl)
theorem oL_isWeak : am_mok qL_isWeak 3 := ⟨(am_T_in (i := 1180) (by decide +kernel) rfl), am_ini_ScopeListerLaw, by decide +kernel, by decide⟩
theorem tL_isWeak : Cond.static yL_isWeak ∈ am_T := (am_T_in (i := 1179) (by decide +kernel) rfl)
theorem oL_strongest : am_mok qL_strongest 2 := ⟨(am_T_in (i := 1187) (by decide +kernel) rfl), am_ini_ScopeListerLaw, by decide +kernel, by decide⟩
theorem tL_strongest : Cond.static yL_strongest ∈ am_T := (am_T_in (i := 1186) (by decide +kernel) rfl)
theorem oL_setDomain : am_mok qL_setDomain 3 := ⟨(am_T_in (i := 1194) (by decide +kernel) rfl), am_ini_ScopeListerLaw, by decide +kernel, by decide⟩
theorem tL_setDomain : Cond.static yL_setDomain ∈ am_T := (am_T_in (i := 1193) (by decide +kernel) rfl)
theorem oL_arity : am_mok qL_arity 3 := ⟨(am_T_in (i := 1202) (by decide +kernel) rfl), am_ini_ScopeListerLaw, by decide +kernel, by decide⟩
theorem tL_arity : Cond.static yL_arity ∈ am_T := (am_T_in (i := 1201) (by decide +kernel) rfl)
theorem oL_setFact : am_mok qL_setFact 6 := ⟨(am_T_in (i := 1214) (by decide +kernel) rfl), am_ini_ScopeListerLaw, by decide +kernel, by decide⟩
theorem tL_setFact : Cond.static yL_setFact ∈ am_T := (am_T_in (i := 1213) (by decide +kernel) rfl)
theorem oL_truth : am_mok qL_truth 3 := ⟨(am_T_in (i := 1226) (by decide +kernel) rfl), am_ini_ScopeListerLaw, by decide +kernel, by decide⟩
theorem tL_truth : Cond.static yL_truth ∈ am_T := (am_T_in (i := 1225) (by decide +kernel) rfl)
theorem oL_trueReadings : am_mok qL_trueReadings 2 := ⟨(am_T_in (i := 1233) (by decide +kernel) rfl), am_ini_ScopeListerLaw, by decide +kernel, by decide⟩
theorem tL_trueReadings : Cond.static yL_trueReadings ∈ am_T := (am_T_in (i := 1232) (by decide +kernel) rfl)
theorem oL_nextDifferent : am_mok qL_nextDifferent 3 := ⟨(am_T_in (i := 1240) (by decide +kernel) rfl), am_ini_ScopeListerLaw, by decide +kernel, by decide⟩
theorem tL_nextDifferent : Cond.static yL_nextDifferent ∈ am_T := (am_T_in (i := 1239) (by decide +kernel) rfl)
theorem oJ0_length_8abf5 : am_mok qJ0_length_8abf5 0 := ⟨(am_T_in (i := 556) (by decide +kernel) rfl), am_ini_java_lang_String, by decide +kernel, by decide⟩
theorem iJ0_length_8abf5 : Cond.instanceMethod yJ0_length_8abf5 ∈ am_T := (am_T_in (i := 554) (by decide +kernel) rfl)
theorem sJ0_length_8abf5 : Cond.selects yJ0_length_8abf5.cls yJ0_length_8abf5 yJ0_length_8abf5 ∈ am_T := (am_T_in (i := 555) (by decide +kernel) rfl)
theorem oJ0_charAt_5068e : am_mok qJ0_charAt_5068e 1 := ⟨(am_T_in (i := 600) (by decide +kernel) rfl), am_ini_java_lang_String, by decide +kernel, by decide⟩
theorem iJ0_charAt_5068e : Cond.instanceMethod yJ0_charAt_5068e ∈ am_T := (am_T_in (i := 598) (by decide +kernel) rfl)
theorem sJ0_charAt_5068e : Cond.selects yJ0_charAt_5068e.cls yJ0_charAt_5068e yJ0_charAt_5068e ∈ am_T := (am_T_in (i := 599) (by decide +kernel) rfl)
theorem oJ0_coder_7d493 : am_mok qJ0_coder_7d493 0 := ⟨(am_T_in (i := 560) (by decide +kernel) rfl), am_ini_java_lang_String, by decide +kernel, by decide⟩
theorem iJ0_coder_7d493 : Cond.instanceMethod yJ0_coder_7d493 ∈ am_T := (am_T_in (i := 558) (by decide +kernel) rfl)
theorem sJ0_coder_7d493 : Cond.selects yJ0_coder_7d493.cls yJ0_coder_7d493 yJ0_coder_7d493 ∈ am_T := (am_T_in (i := 559) (by decide +kernel) rfl)
theorem oJ0_isLatin1_aae02 : am_mok qJ0_isLatin1_aae02 0 := ⟨(am_T_in (i := 604) (by decide +kernel) rfl), am_ini_java_lang_String, by decide +kernel, by decide⟩
theorem iJ0_isLatin1_aae02 : Cond.instanceMethod yJ0_isLatin1_aae02 ∈ am_T := (am_T_in (i := 602) (by decide +kernel) rfl)
theorem sJ0_isLatin1_aae02 : Cond.selects yJ0_isLatin1_aae02.cls yJ0_isLatin1_aae02 yJ0_isLatin1_aae02 ∈ am_T := (am_T_in (i := 603) (by decide +kernel) rfl)
theorem oJ0_checkIndex_df160 : am_mok qJ0_checkIndex_df160 2 := ⟨(am_T_in (i := 610) (by decide +kernel) rfl), am_ini_java_lang_String, by decide +kernel, by decide⟩
theorem tJ0_checkIndex_df160 : Cond.static yJ0_checkIndex_df160 ∈ am_T := (am_T_in (i := 609) (by decide +kernel) rfl)
theorem oJ1_charAt_3b067 : am_mok qJ1_charAt_3b067 2 := ⟨(am_T_in (i := 607) (by decide +kernel) rfl), am_ini_java_lang_StringLatin1, by decide +kernel, by decide⟩
theorem tJ1_charAt_3b067 : Cond.static yJ1_charAt_3b067 ∈ am_T := (am_T_in (i := 606) (by decide +kernel) rfl)
theorem oJ2_getChar_3b067 : am_mok qJ2_getChar_3b067 2 := ⟨(am_T_in (i := 628) (by decide +kernel) rfl), am_ini_java_lang_StringUTF16, by decide +kernel, by decide⟩
theorem tJ2_getChar_3b067 : Cond.static yJ2_getChar_3b067 ∈ am_T := (am_T_in (i := 627) (by decide +kernel) rfl)
theorem oJ2_length_9d52b : am_mok qJ2_length_9d52b 1 := ⟨(am_T_in (i := 624) (by decide +kernel) rfl), am_ini_java_lang_StringUTF16, by decide +kernel, by decide⟩
theorem tJ2_length_9d52b : Cond.static yJ2_length_9d52b ∈ am_T := (am_T_in (i := 623) (by decide +kernel) rfl)
theorem oJ2_charAt_3b067 : am_mok qJ2_charAt_3b067 2 := ⟨(am_T_in (i := 618) (by decide +kernel) rfl), am_ini_java_lang_StringUTF16, by decide +kernel, by decide⟩
theorem tJ2_charAt_3b067 : Cond.static yJ2_charAt_3b067 ∈ am_T := (am_T_in (i := 617) (by decide +kernel) rfl)
theorem oJ2_checkIndex_2214a : am_mok qJ2_checkIndex_2214a 2 := ⟨(am_T_in (i := 621) (by decide +kernel) rfl), am_ini_java_lang_StringUTF16, by decide +kernel, by decide⟩
theorem tJ2_checkIndex_2214a : Cond.static yJ2_checkIndex_2214a ∈ am_T := (am_T_in (i := 620) (by decide +kernel) rfl)
theorem oJ7_fill_53178 : am_mok qJ7_fill_53178 2 := ⟨(am_T_in (i := 696) (by decide +kernel) rfl), am_ini_java_util_Arrays, by decide +kernel, by decide⟩
theorem tJ7_fill_53178 : Cond.static yJ7_fill_53178 ∈ am_T := (am_T_in (i := 695) (by decide +kernel) rfl)
theorem oJ3_checkIndex_8e157 : am_mok qJ3_checkIndex_8e157 3 := ⟨(am_T_in (i := 615) (by decide +kernel) rfl), am_ini_jdk_internal_util_Preconditions, by decide +kernel, by decide⟩
theorem tJ3_checkIndex_8e157 : Cond.static yJ3_checkIndex_8e157 ∈ am_T := (am_T_in (i := 614) (by decide +kernel) rfl)

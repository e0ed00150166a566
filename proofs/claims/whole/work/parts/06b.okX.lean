def q_okat (T : Tb) (mt : List Mr) (oi : Nat) (cc : ByteArray) (ret : Option FieldType) (ini : Bool) (cd : List En) (i : Nat) : Bool := match cd[i]? with
  | some e => q_ok T mt oi cc ret ini cd i e
  | none => true
theorem q_ok_of {T : Tb} {mt : List Mr} {oi : Nat} {cc : ByteArray} {ret : Option FieldType} {ini : Bool} {cd : List En} {n : Nat} (hn : cd.length = n) (h : (List.range n).all (fun i => q_okat T mt oi cc ret ini cd i) = true) : ∀ (i : Nat) (e : En), cd[i]? = some e → q_ok T mt oi cc ret ini cd i e = true := by
  intro i e hi
  have h1 := List.all_eq_true.mp h i (List.mem_range.mpr (by rw [← hn]; exact (List.getElem?_eq_some_iff.mp hi).1))
  unfold q_okat at h1
  rw [hi] at h1
  exact h1
set_option maxRecDepth 100000 in
theorem ok_X0_init : (List.range 12).all (fun i => q_okat q_tb q_mt 0 cX0_init none true cd_X0_init i) = true := by decide +kernel
set_option maxRecDepth 100000 in
theorem ok_X0_readText : (List.range 36).all (fun i => q_okat q_tb q_mt 0 cX0_readText (some .boolean) false cd_X0_readText i) = true := by decide +kernel
set_option maxRecDepth 100000 in
theorem ok_X0_readLine : (List.range 70).all (fun i => q_okat q_tb q_mt 0 cX0_readLine (some .boolean) false cd_X0_readLine i) = true := by decide +kernel
set_option maxRecDepth 100000 in
theorem ok_X0_readJar : (List.range 120).all (fun i => q_okat q_tb q_mt 0 cX0_readJar (some .boolean) false cd_X0_readJar i) = true := by decide +kernel
set_option maxRecDepth 100000 in
theorem ok_X0_takeNumber : (List.range 7).all (fun i => q_okat q_tb q_mt 0 cX0_takeNumber (some .boolean) false cd_X0_takeNumber i) = true := by decide +kernel
set_option maxRecDepth 100000 in
theorem ok_X0_takeFreePlace : (List.range 33).all (fun i => q_okat q_tb q_mt 0 cX0_takeFreePlace (some .boolean) false cd_X0_takeFreePlace i) = true := by decide +kernel
set_option maxRecDepth 100000 in
theorem ok_X0_takeViews : (List.range 28).all (fun i => q_okat q_tb q_mt 0 cX0_takeViews (some .boolean) false cd_X0_takeViews i) = true := by decide +kernel
set_option maxRecDepth 100000 in
theorem ok_X0_readNeed : (List.range 62).all (fun i => q_okat q_tb q_mt 0 cX0_readNeed (some .boolean) false cd_X0_readNeed i) = true := by decide +kernel
set_option maxRecDepth 100000 in
theorem ok_X0_readLight : (List.range 28).all (fun i => q_okat q_tb q_mt 0 cX0_readLight (some .boolean) false cd_X0_readLight i) = true := by decide +kernel
set_option maxRecDepth 100000 in
theorem ok_X0_readQuota : (List.range 13).all (fun i => q_okat q_tb q_mt 0 cX0_readQuota (some .boolean) false cd_X0_readQuota i) = true := by decide +kernel
set_option maxRecDepth 100000 in
theorem ok_X0_readPeel : (List.range 13).all (fun i => q_okat q_tb q_mt 0 cX0_readPeel (some .boolean) false cd_X0_readPeel i) = true := by decide +kernel
set_option maxRecDepth 100000 in
theorem ok_X0_readWasps : (List.range 13).all (fun i => q_okat q_tb q_mt 0 cX0_readWasps (some .boolean) false cd_X0_readWasps i) = true := by decide +kernel
set_option maxRecDepth 100000 in
theorem ok_X1_init : (List.range 24).all (fun i => q_okat q_tb q_mt 1 cX1_init none true cd_X1_init i) = true := by decide +kernel
set_option maxRecDepth 100000 in
theorem ok_X1_adviceOf : (List.range 10).all (fun i => q_okat q_tb q_mt 1 cX1_adviceOf (some .int) false cd_X1_adviceOf i) = true := by decide +kernel
set_option maxRecDepth 100000 in
theorem ok_X1_hear : (List.range 22).all (fun i => q_okat q_tb q_mt 1 cX1_hear none false cd_X1_hear i) = true := by decide +kernel
set_option maxRecDepth 100000 in
theorem ok_X1_hearAll : (List.range 11).all (fun i => q_okat q_tb q_mt 1 cX1_hearAll none false cd_X1_hearAll i) = true := by decide +kernel
set_option maxRecDepth 100000 in
theorem ok_X1_heard : (List.range 9).all (fun i => q_okat q_tb q_mt 1 cX1_heard (some .int) false cd_X1_heard i) = true := by decide +kernel
set_option maxRecDepth 100000 in
theorem ok_X1_isIn : (List.range 11).all (fun i => q_okat q_tb q_mt 1 cX1_isIn (some .boolean) false cd_X1_isIn i) = true := by decide +kernel
set_option maxRecDepth 100000 in
theorem ok_X1_mixed : (List.range 14).all (fun i => q_okat q_tb q_mt 1 cX1_mixed (some .int) false cd_X1_mixed i) = true := by decide +kernel
set_option maxRecDepth 100000 in
theorem ok_X1_mixtureOf : (List.range 10).all (fun i => q_okat q_tb q_mt 1 cX1_mixtureOf (some .int) false cd_X1_mixtureOf i) = true := by decide +kernel
set_option maxRecDepth 100000 in
theorem ok_X1_bestMixOf : (List.range 55).all (fun i => q_okat q_tb q_mt 1 cX1_bestMixOf (some .int) false cd_X1_bestMixOf i) = true := by decide +kernel
set_option maxRecDepth 100000 in
theorem ok_X1_clashesWith : (List.range 6).all (fun i => q_okat q_tb q_mt 1 cX1_clashesWith (some .int) false cd_X1_clashesWith i) = true := by decide +kernel
set_option maxRecDepth 100000 in
theorem ok_X1_heardClashes : (List.range 26).all (fun i => q_okat q_tb q_mt 1 cX1_heardClashes (some .int) false cd_X1_heardClashes i) = true := by decide +kernel
set_option maxRecDepth 100000 in
theorem ok_X1_doClash : (List.range 23).all (fun i => q_okat q_tb q_mt 1 cX1_doClash (some .boolean) false cd_X1_doClash i) = true := by decide +kernel
set_option maxRecDepth 100000 in
theorem ok_X1_alikeTo : (List.range 31).all (fun i => q_okat q_tb q_mt 1 cX1_alikeTo (some .int) false cd_X1_alikeTo i) = true := by decide +kernel
set_option maxRecDepth 100000 in
theorem ok_X1_areAlike : (List.range 20).all (fun i => q_okat q_tb q_mt 1 cX1_areAlike (some .boolean) false cd_X1_areAlike i) = true := by decide +kernel
set_option maxRecDepth 100000 in
theorem ok_X1_largestCoalition : (List.range 49).all (fun i => q_okat q_tb q_mt 1 cX1_largestCoalition (some .int) false cd_X1_largestCoalition i) = true := by decide +kernel
set_option maxRecDepth 100000 in
theorem ok_X1_isPeaceful : (List.range 24).all (fun i => q_okat q_tb q_mt 1 cX1_isPeaceful (some .boolean) false cd_X1_isPeaceful i) = true := by decide +kernel
set_option maxRecDepth 100000 in
theorem ok_X1_agreedBy : (List.range 26).all (fun i => q_okat q_tb q_mt 1 cX1_agreedBy (some .int) false cd_X1_agreedBy i) = true := by decide +kernel
set_option maxRecDepth 100000 in
theorem ok_X1_areAtOne : (List.range 33).all (fun i => q_okat q_tb q_mt 1 cX1_areAtOne (some .boolean) false cd_X1_areAtOne i) = true := by decide +kernel
set_option maxRecDepth 100000 in
theorem ok_X1_fewestThatCover : (List.range 34).all (fun i => q_okat q_tb q_mt 1 cX1_fewestThatCover (some .int) false cd_X1_fewestThatCover i) = true := by decide +kernel
set_option maxRecDepth 100000 in
theorem ok_X1_doCover : (List.range 17).all (fun i => q_okat q_tb q_mt 1 cX1_doCover (some .boolean) false cd_X1_doCover i) = true := by decide +kernel
set_option maxRecDepth 100000 in
theorem ok_X1_greatestOf : (List.range 24).all (fun i => q_okat q_tb q_mt 1 cX1_greatestOf (some .int) false cd_X1_greatestOf i) = true := by decide +kernel
set_option maxRecDepth 100000 in
theorem ok_X1_thatTasteSo : (List.range 29).all (fun i => q_okat q_tb q_mt 1 cX1_thatTasteSo (some .int) false cd_X1_thatTasteSo i) = true := by decide +kernel
set_option maxRecDepth 100000 in
theorem ok_X1_othersOnTape : (List.range 32).all (fun i => q_okat q_tb q_mt 1 cX1_othersOnTape (some .int) false cd_X1_othersOnTape i) = true := by decide +kernel
set_option maxRecDepth 100000 in
theorem ok_X1_nextTasteAmong : (List.range 33).all (fun i => q_okat q_tb q_mt 1 cX1_nextTasteAmong (some .int) false cd_X1_nextTasteAmong i) = true := by decide +kernel
set_option maxRecDepth 100000 in
theorem ok_X1_mostAtOne : (List.range 42).all (fun i => q_okat q_tb q_mt 1 cX1_mostAtOne (some .int) false cd_X1_mostAtOne i) = true := by decide +kernel
set_option maxRecDepth 100000 in
theorem ok_X1_restsOfWar : (List.range 63).all (fun i => q_okat q_tb q_mt 1 cX1_restsOfWar (some .int) false cd_X1_restsOfWar i) = true := by decide +kernel
set_option maxRecDepth 100000 in
theorem ok_X1_isContent : (List.range 17).all (fun i => q_okat q_tb q_mt 1 cX1_isContent (some .boolean) false cd_X1_isContent i) = true := by decide +kernel
set_option maxRecDepth 100000 in
theorem ok_X1_gain : (List.range 16).all (fun i => q_okat q_tb q_mt 1 cX1_gain (some .int) false cd_X1_gain i) = true := by decide +kernel
set_option maxRecDepth 100000 in
theorem ok_X1_isWinning : (List.range 12).all (fun i => q_okat q_tb q_mt 1 cX1_isWinning (some .boolean) false cd_X1_isWinning i) = true := by decide +kernel
set_option maxRecDepth 100000 in
theorem ok_X1_powerOf : (List.range 38).all (fun i => q_okat q_tb q_mt 1 cX1_powerOf (some .int) false cd_X1_powerOf i) = true := by decide +kernel
set_option maxRecDepth 100000 in
theorem ok_X1_countSumsWithout : (List.range 56).all (fun i => q_okat q_tb q_mt 1 cX1_countSumsWithout none false cd_X1_countSumsWithout i) = true := by decide +kernel
set_option maxRecDepth 100000 in
theorem ok_X1_powerless : (List.range 25).all (fun i => q_okat q_tb q_mt 1 cX1_powerless (some .int) false cd_X1_powerless i) = true := by decide +kernel
set_option maxRecDepth 100000 in
theorem ok_X1_fewestWinning : (List.range 31).all (fun i => q_okat q_tb q_mt 1 cX1_fewestWinning (some .int) false cd_X1_fewestWinning i) = true := by decide +kernel
set_option maxRecDepth 100000 in
theorem ok_X1_cheapestWinning : (List.range 34).all (fun i => q_okat q_tb q_mt 1 cX1_cheapestWinning (some .int) false cd_X1_cheapestWinning i) = true := by decide +kernel
set_option maxRecDepth 100000 in
theorem ok_X2_init : (List.range 30).all (fun i => q_okat q_tb q_mt 2 cX2_init none true cd_X2_init i) = true := by decide +kernel
set_option maxRecDepth 100000 in
theorem ok_X2_goOn : (List.range 38).all (fun i => q_okat q_tb q_mt 2 cX2_goOn none false cd_X2_goOn i) = true := by decide +kernel
set_option maxRecDepth 100000 in
theorem ok_X2_pop : (List.range 37).all (fun i => q_okat q_tb q_mt 2 cX2_pop none false cd_X2_pop i) = true := by decide +kernel
set_option maxRecDepth 100000 in
theorem ok_X2_passYears : (List.range 23).all (fun i => q_okat q_tb q_mt 2 cX2_passYears none false cd_X2_passYears i) = true := by decide +kernel
set_option maxRecDepth 100000 in
theorem ok_X2_peelLabel : (List.range 29).all (fun i => q_okat q_tb q_mt 2 cX2_peelLabel none false cd_X2_peelLabel i) = true := by decide +kernel
set_option maxRecDepth 100000 in
theorem ok_X2_feedWasps : (List.range 43).all (fun i => q_okat q_tb q_mt 2 cX2_feedWasps none false cd_X2_feedWasps i) = true := by decide +kernel
set_option maxRecDepth 100000 in
theorem ok_X2_trySeed : (List.range 21).all (fun i => q_okat q_tb q_mt 2 cX2_trySeed (some .int) false cd_X2_trySeed i) = true := by decide +kernel
set_option maxRecDepth 100000 in
theorem ok_X2_spanOfTrials : (List.range 29).all (fun i => q_okat q_tb q_mt 2 cX2_spanOfTrials (some .int) false cd_X2_spanOfTrials i) = true := by decide +kernel
set_option maxRecDepth 100000 in
theorem ok_X2_lookAhead : (List.range 12).all (fun i => q_okat q_tb q_mt 2 cX2_lookAhead none false cd_X2_lookAhead i) = true := by decide +kernel
set_option maxRecDepth 100000 in
theorem ok_X2_lookAtNow : (List.range 6).all (fun i => q_okat q_tb q_mt 2 cX2_lookAtNow none false cd_X2_lookAtNow i) = true := by decide +kernel
set_option maxRecDepth 100000 in
theorem ok_X2_lookOn : (List.range 12).all (fun i => q_okat q_tb q_mt 2 cX2_lookOn none false cd_X2_lookOn i) = true := by decide +kernel
set_option maxRecDepth 100000 in
theorem ok_X2_adviceThen : (List.range 10).all (fun i => q_okat q_tb q_mt 2 cX2_adviceThen (some .int) false cd_X2_adviceThen i) = true := by decide +kernel
set_option maxRecDepth 100000 in
theorem ok_X2_firstBelow : (List.range 21).all (fun i => q_okat q_tb q_mt 2 cX2_firstBelow (some .int) false cd_X2_firstBelow i) = true := by decide +kernel
set_option maxRecDepth 100000 in
theorem ok_X2_ripest : (List.range 33).all (fun i => q_okat q_tb q_mt 2 cX2_ripest (some .int) false cd_X2_ripest i) = true := by decide +kernel
set_option maxRecDepth 100000 in
theorem ok_X2_firstPopped : (List.range 29).all (fun i => q_okat q_tb q_mt 2 cX2_firstPopped (some .int) false cd_X2_firstPopped i) = true := by decide +kernel
set_option maxRecDepth 100000 in
theorem ok_X2_answersTo : (List.range 7).all (fun i => q_okat q_tb q_mt 2 cX2_answersTo (some .int) false cd_X2_answersTo i) = true := by decide +kernel
set_option maxRecDepth 100000 in
theorem ok_X2_firstUnmet : (List.range 20).all (fun i => q_okat q_tb q_mt 2 cX2_firstUnmet (some .int) false cd_X2_firstUnmet i) = true := by decide +kernel
set_option maxRecDepth 100000 in
theorem ok_X2_findAnswers : (List.range 54).all (fun i => q_okat q_tb q_mt 2 cX2_findAnswers none false cd_X2_findAnswers i) = true := by decide +kernel
set_option maxRecDepth 100000 in
theorem ok_X2_farthestNeed : (List.range 30).all (fun i => q_okat q_tb q_mt 2 cX2_farthestNeed (some .int) false cd_X2_farthestNeed i) = true := by decide +kernel
set_option maxRecDepth 100000 in
theorem ok_X2_answersThen : (List.range 47).all (fun i => q_okat q_tb q_mt 2 cX2_answersThen (some .int) false cd_X2_answersThen i) = true := by decide +kernel
set_option maxRecDepth 100000 in
theorem ok_X2_mostMet : (List.range 59).all (fun i => q_okat q_tb q_mt 2 cX2_mostMet (some .int) false cd_X2_mostMet i) = true := by decide +kernel
set_option maxRecDepth 100000 in
theorem ok_X2_findAnswerer : (List.range 50).all (fun i => q_okat q_tb q_mt 2 cX2_findAnswerer (some .boolean) false cd_X2_findAnswerer i) = true := by decide +kernel
set_option maxRecDepth 100000 in
theorem ok_X2_makeRoom : (List.range 46).all (fun i => q_okat q_tb q_mt 2 cX2_makeRoom (some .boolean) false cd_X2_makeRoom i) = true := by decide +kernel
set_option maxRecDepth 100000 in
theorem ok_X3_init : (List.range 27).all (fun i => q_okat q_tb q_mt 3 cX3_init none true cd_X3_init i) = true := by decide +kernel
set_option maxRecDepth 100000 in
theorem ok_X3_remember : (List.range 24).all (fun i => q_okat q_tb q_mt 3 cX3_remember none false cd_X3_remember i) = true := by decide +kernel
set_option maxRecDepth 100000 in
theorem ok_X3_giveBack : (List.range 30).all (fun i => q_okat q_tb q_mt 3 cX3_giveBack (some .boolean) false cd_X3_giveBack i) = true := by decide +kernel
set_option maxRecDepth 100000 in
theorem ok_X3_forget : (List.range 4).all (fun i => q_okat q_tb q_mt 3 cX3_forget none false cd_X3_forget i) = true := by decide +kernel
set_option maxRecDepth 100000 in
theorem ok_X4_init : (List.range 35).all (fun i => q_okat q_tb q_mt 4 cX4_init none true cd_X4_init i) = true := by decide +kernel
set_option maxRecDepth 100000 in
theorem ok_X4_become : (List.range 41).all (fun i => q_okat q_tb q_mt 4 cX4_become none false cd_X4_become i) = true := by decide +kernel
set_option maxRecDepth 100000 in
theorem ok_X4_clear : (List.range 7).all (fun i => q_okat q_tb q_mt 4 cX4_clear none false cd_X4_clear i) = true := by decide +kernel
set_option maxRecDepth 100000 in
theorem ok_X4_addStep : (List.range 17).all (fun i => q_okat q_tb q_mt 4 cX4_addStep none false cd_X4_addStep i) = true := by decide +kernel
set_option maxRecDepth 100000 in
theorem ok_X4_addLine : (List.range 33).all (fun i => q_okat q_tb q_mt 4 cX4_addLine none false cd_X4_addLine i) = true := by decide +kernel
set_option maxRecDepth 100000 in
theorem ok_X4_adviceOf : (List.range 36).all (fun i => q_okat q_tb q_mt 4 cX4_adviceOf (some .int) false cd_X4_adviceOf i) = true := by decide +kernel
set_option maxRecDepth 100000 in
theorem ok_X4_soursBy : (List.range 22).all (fun i => q_okat q_tb q_mt 4 cX4_soursBy (some .int) false cd_X4_soursBy i) = true := by decide +kernel
set_option maxRecDepth 100000 in
theorem ok_X4_makesPop : (List.range 27).all (fun i => q_okat q_tb q_mt 4 cX4_makesPop (some .boolean) false cd_X4_makesPop i) = true := by decide +kernel
set_option maxRecDepth 100000 in
theorem ok_X4_lookAt : (List.range 57).all (fun i => q_okat q_tb q_mt 4 cX4_lookAt none false cd_X4_lookAt i) = true := by decide +kernel
set_option maxRecDepth 100000 in
theorem ok_X4_sumOf : (List.range 29).all (fun i => q_okat q_tb q_mt 4 cX4_sumOf (some .int) false cd_X4_sumOf i) = true := by decide +kernel
set_option maxRecDepth 100000 in
theorem ok_X4_holds : (List.range 169).all (fun i => q_okat q_tb q_mt 4 cX4_holds (some .boolean) false cd_X4_holds i) = true := by decide +kernel
set_option maxRecDepth 100000 in
theorem ok_X5_init : (List.range 9).all (fun i => q_okat q_tb q_mt 5 cX5_init none true cd_X5_init i) = true := by decide +kernel
set_option maxRecDepth 100000 in
theorem ok_X5_readText : (List.range 39).all (fun i => q_okat q_tb q_mt 5 cX5_readText (some .boolean) false cd_X5_readText i) = true := by decide +kernel
set_option maxRecDepth 100000 in
theorem ok_X5_readLine : (List.range 44).all (fun i => q_okat q_tb q_mt 5 cX5_readLine (some .boolean) false cd_X5_readLine i) = true := by decide +kernel
set_option maxRecDepth 100000 in
theorem ok_X5_takeKind : (List.range 30).all (fun i => q_okat q_tb q_mt 5 cX5_takeKind (some .int) false cd_X5_takeKind i) = true := by decide +kernel
set_option maxRecDepth 100000 in
theorem ok_X5_readAny : (List.range 48).all (fun i => q_okat q_tb q_mt 5 cX5_readAny (some .boolean) false cd_X5_readAny i) = true := by decide +kernel
set_option maxRecDepth 100000 in
theorem ok_X5_readAtom : (List.range 90).all (fun i => q_okat q_tb q_mt 5 cX5_readAtom (some .boolean) false cd_X5_readAtom i) = true := by decide +kernel
set_option maxRecDepth 100000 in
theorem ok_X5_readDeeper : (List.range 33).all (fun i => q_okat q_tb q_mt 5 cX5_readDeeper (some .boolean) false cd_X5_readDeeper i) = true := by decide +kernel
set_option maxRecDepth 100000 in
theorem ok_X5_readSum : (List.range 47).all (fun i => q_okat q_tb q_mt 5 cX5_readSum (some .boolean) false cd_X5_readSum i) = true := by decide +kernel
set_option maxRecDepth 100000 in
theorem ok_X5_partThere : (List.range 51).all (fun i => q_okat q_tb q_mt 5 cX5_partThere (some .int) false cd_X5_partThere i) = true := by decide +kernel
set_option maxRecDepth 100000 in
theorem ok_X6_init : (List.range 7).all (fun i => q_okat q_tb q_mt 6 cX6_init none true cd_X6_init i) = true := by decide +kernel
set_option maxRecDepth 100000 in
theorem ok_X6_become : (List.range 9).all (fun i => q_okat q_tb q_mt 6 cX6_become none false cd_X6_become i) = true := by decide +kernel
set_option maxRecDepth 100000 in
theorem ok_X6_enter : (List.range 56).all (fun i => q_okat q_tb q_mt 6 cX6_enter none false cd_X6_enter i) = true := by decide +kernel
set_option maxRecDepth 100000 in
theorem ok_X6_hasRow : (List.range 10).all (fun i => q_okat q_tb q_mt 6 cX6_hasRow (some .boolean) false cd_X6_hasRow i) = true := by decide +kernel
set_option maxRecDepth 100000 in
theorem ok_X6_cell : (List.range 16).all (fun i => q_okat q_tb q_mt 6 cX6_cell (some .int) false cd_X6_cell i) = true := by decide +kernel
set_option maxRecDepth 100000 in
theorem ok_X6_timesAsked : (List.range 27).all (fun i => q_okat q_tb q_mt 6 cX6_timesAsked (some .int) false cd_X6_timesAsked i) = true := by decide +kernel
set_option maxRecDepth 100000 in
theorem ok_X6_askedMost : (List.range 25).all (fun i => q_okat q_tb q_mt 6 cX6_askedMost (some .int) false cd_X6_askedMost i) = true := by decide +kernel
set_option maxRecDepth 100000 in
theorem ok_X6_latestOf : (List.range 23).all (fun i => q_okat q_tb q_mt 6 cX6_latestOf (some .int) false cd_X6_latestOf i) = true := by decide +kernel
set_option maxRecDepth 100000 in
theorem ok_X7_init : (List.range 37).all (fun i => q_okat q_tb q_mt 7 cX7_init none true cd_X7_init i) = true := by decide +kernel
set_option maxRecDepth 100000 in
theorem ok_X7_become : (List.range 57).all (fun i => q_okat q_tb q_mt 7 cX7_become none false cd_X7_become i) = true := by decide +kernel
set_option maxRecDepth 100000 in
theorem ok_X7_isOpen : (List.range 12).all (fun i => q_okat q_tb q_mt 7 cX7_isOpen (some .boolean) false cd_X7_isOpen i) = true := by decide +kernel
set_option maxRecDepth 100000 in
theorem ok_X7_useSpoon : (List.range 17).all (fun i => q_okat q_tb q_mt 7 cX7_useSpoon none false cd_X7_useSpoon i) = true := by decide +kernel
set_option maxRecDepth 100000 in
theorem ok_X7_putLidOn : (List.range 11).all (fun i => q_okat q_tb q_mt 7 cX7_putLidOn none false cd_X7_putLidOn i) = true := by decide +kernel
set_option maxRecDepth 100000 in
theorem ok_X7_sourMore : (List.range 13).all (fun i => q_okat q_tb q_mt 7 cX7_sourMore none false cd_X7_sourMore i) = true := by decide +kernel
set_option maxRecDepth 100000 in
theorem ok_X7_jarOn : (List.range 17).all (fun i => q_okat q_tb q_mt 7 cX7_jarOn (some .int) false cd_X7_jarOn i) = true := by decide +kernel
set_option maxRecDepth 100000 in
theorem ok_X7_spoonsOfAll : (List.range 18).all (fun i => q_okat q_tb q_mt 7 cX7_spoonsOfAll (some .int) false cd_X7_spoonsOfAll i) = true := by decide +kernel
set_option maxRecDepth 100000 in
theorem ok_X7_draw : (List.range 15).all (fun i => q_okat q_tb q_mt 7 cX7_draw (some .int) false cd_X7_draw i) = true := by decide +kernel
set_option maxRecDepth 100000 in
theorem ok_X8_init : (List.range 17).all (fun i => q_okat q_tb q_mt 8 cX8_init none true cd_X8_init i) = true := by decide +kernel
set_option maxRecDepth 100000 in
theorem ok_X8_harmOn : (List.range 12).all (fun i => q_okat q_tb q_mt 8 cX8_harmOn (some .int) false cd_X8_harmOn i) = true := by decide +kernel
set_option maxRecDepth 100000 in
theorem ok_X8_harmNow : (List.range 24).all (fun i => q_okat q_tb q_mt 8 cX8_harmNow (some .int) false cd_X8_harmNow i) = true := by decide +kernel
set_option maxRecDepth 100000 in
theorem ok_X8_leastHarm : (List.range 7).all (fun i => q_okat q_tb q_mt 8 cX8_leastHarm (some .int) false cd_X8_leastHarm i) = true := by decide +kernel
set_option maxRecDepth 100000 in
theorem ok_X8_arrangedPlaceOf : (List.range 44).all (fun i => q_okat q_tb q_mt 8 cX8_arrangedPlaceOf (some .int) false cd_X8_arrangedPlaceOf i) = true := by decide +kernel
set_option maxRecDepth 100000 in
theorem ok_X8_firstPlaceFor : (List.range 34).all (fun i => q_okat q_tb q_mt 8 cX8_firstPlaceFor (some .int) false cd_X8_firstPlaceFor i) = true := by decide +kernel
set_option maxRecDepth 100000 in
theorem ok_X8_leastHarmFrom : (List.range 52).all (fun i => q_okat q_tb q_mt 8 cX8_leastHarmFrom (some .int) false cd_X8_leastHarmFrom i) = true := by decide +kernel
set_option maxRecDepth 100000 in
theorem ok_X8_sortBoth : (List.range 91).all (fun i => q_okat q_tb q_mt 8 cX8_sortBoth none false cd_X8_sortBoth i) = true := by decide +kernel
set_option maxRecDepth 100000 in
theorem ok_X8_fallsFrom : (List.range 36).all (fun i => q_okat q_tb q_mt 8 cX8_fallsFrom (some .int) false cd_X8_fallsFrom i) = true := by decide +kernel
set_option maxRecDepth 100000 in
theorem ok_X8_worstPlace : (List.range 26).all (fun i => q_okat q_tb q_mt 8 cX8_worstPlace (some .int) false cd_X8_worstPlace i) = true := by decide +kernel
set_option maxRecDepth 100000 in
theorem ok_X9_init : (List.range 49).all (fun i => q_okat q_tb q_mt 9 cX9_init none true cd_X9_init i) = true := by decide +kernel
set_option maxRecDepth 100000 in
theorem ok_X9_become : (List.range 81).all (fun i => q_okat q_tb q_mt 9 cX9_become none false cd_X9_become i) = true := by decide +kernel
set_option maxRecDepth 100000 in
theorem ok_X9_hasJar : (List.range 10).all (fun i => q_okat q_tb q_mt 9 cX9_hasJar (some .boolean) false cd_X9_hasJar i) = true := by decide +kernel
set_option maxRecDepth 100000 in
theorem ok_X9_everyJar : (List.range 7).all (fun i => q_okat q_tb q_mt 9 cX9_everyJar (some .int) false cd_X9_everyJar i) = true := by decide +kernel
set_option maxRecDepth 100000 in
theorem ok_X9_viewOf : (List.range 9).all (fun i => q_okat q_tb q_mt 9 cX9_viewOf (some .int) false cd_X9_viewOf i) = true := by decide +kernel
set_option maxRecDepth 100000 in
theorem ok_X9_setView : (List.range 10).all (fun i => q_okat q_tb q_mt 9 cX9_setView none false cd_X9_setView i) = true := by decide +kernel
set_option maxRecDepth 100000 in
theorem ok_X9_sealsOf : (List.range 26).all (fun i => q_okat q_tb q_mt 9 cX9_sealsOf (some .int) false cd_X9_sealsOf i) = true := by decide +kernel
set_option maxRecDepth 100000 in
theorem ok_X10_init : (List.range 25).all (fun i => q_okat q_tb q_mt 10 cX10_init none true cd_X10_init i) = true := by decide +kernel
set_option maxRecDepth 100000 in
theorem ok_X10_hasRoom : (List.range 10).all (fun i => q_okat q_tb q_mt 10 cX10_hasRoom (some .boolean) false cd_X10_hasRoom i) = true := by decide +kernel
set_option maxRecDepth 100000 in
theorem ok_X10_append : (List.range 26).all (fun i => q_okat q_tb q_mt 10 cX10_append none false cd_X10_append i) = true := by decide +kernel
set_option maxRecDepth 100000 in
theorem ok_X10_byteAt : (List.range 15).all (fun i => q_okat q_tb q_mt 10 cX10_byteAt (some .int) false cd_X10_byteAt i) = true := by decide +kernel
set_option maxRecDepth 100000 in
theorem ok_X10_holdsTastes : (List.range 35).all (fun i => q_okat q_tb q_mt 10 cX10_holdsTastes (some .boolean) false cd_X10_holdsTastes i) = true := by decide +kernel
set_option maxRecDepth 100000 in
theorem ok_X10_start : (List.range 6).all (fun i => q_okat q_tb q_mt 10 cX10_start none false cd_X10_start i) = true := by decide +kernel
set_option maxRecDepth 100000 in
theorem ok_X10_step : (List.range 156).all (fun i => q_okat q_tb q_mt 10 cX10_step none false cd_X10_step i) = true := by decide +kernel
set_option maxRecDepth 100000 in
theorem ok_X10_isAtEnd : (List.range 7).all (fun i => q_okat q_tb q_mt 10 cX10_isAtEnd (some .boolean) false cd_X10_isAtEnd i) = true := by decide +kernel
set_option maxRecDepth 100000 in
theorem ok_X10_isWord : (List.range 37).all (fun i => q_okat q_tb q_mt 10 cX10_isWord (some .boolean) false cd_X10_isWord i) = true := by decide +kernel
set_option maxRecDepth 100000 in
theorem ok_X10_isSign : (List.range 20).all (fun i => q_okat q_tb q_mt 10 cX10_isSign (some .boolean) false cd_X10_isSign i) = true := by decide +kernel
set_option maxRecDepth 100000 in
theorem ok_X10_isNumber : (List.range 23).all (fun i => q_okat q_tb q_mt 10 cX10_isNumber (some .boolean) false cd_X10_isNumber i) = true := by decide +kernel
set_option maxRecDepth 100000 in
theorem ok_X10_isFigures : (List.range 15).all (fun i => q_okat q_tb q_mt 10 cX10_isFigures (some .boolean) false cd_X10_isFigures i) = true := by decide +kernel
set_option maxRecDepth 100000 in
theorem ok_X10_figure : (List.range 9).all (fun i => q_okat q_tb q_mt 10 cX10_figure (some .int) false cd_X10_figure i) = true := by decide +kernel
set_option maxRecDepth 100000 in
theorem ok_X10_takeWord : (List.range 10).all (fun i => q_okat q_tb q_mt 10 cX10_takeWord (some .boolean) false cd_X10_takeWord i) = true := by decide +kernel
set_option maxRecDepth 100000 in
theorem ok_X10_takeSign : (List.range 10).all (fun i => q_okat q_tb q_mt 10 cX10_takeSign (some .boolean) false cd_X10_takeSign i) = true := by decide +kernel
set_option maxRecDepth 100000 in
theorem ok_X10_takeNumber : (List.range 16).all (fun i => q_okat q_tb q_mt 10 cX10_takeNumber (some .boolean) false cd_X10_takeNumber i) = true := by decide +kernel
set_option maxRecDepth 100000 in
theorem ok_X10_takeLiquid : (List.range 20).all (fun i => q_okat q_tb q_mt 10 cX10_takeLiquid (some .int) false cd_X10_takeLiquid i) = true := by decide +kernel
set_option maxRecDepth 100000 in
theorem ok_X11_init : (List.range 127).all (fun i => q_okat q_tb q_mt 11 cX11_init none true cd_X11_init i) = true := by decide +kernel
set_option maxRecDepth 100000 in
theorem ok_X11_feed : (List.range 30).all (fun i => q_okat q_tb q_mt 11 cX11_feed (some .int) false cd_X11_feed i) = true := by decide +kernel
set_option maxRecDepth 100000 in
theorem ok_X11_end : (List.range 15).all (fun i => q_okat q_tb q_mt 11 cX11_end (some .boolean) false cd_X11_end i) = true := by decide +kernel
set_option maxRecDepth 100000 in
theorem ok_X11_cabinet : (List.range 68).all (fun i => q_okat q_tb q_mt 11 cX11_cabinet (some .int) false cd_X11_cabinet i) = true := by decide +kernel
set_option maxRecDepth 100000 in
theorem ok_X11_law : (List.range 36).all (fun i => q_okat q_tb q_mt 11 cX11_law (some .int) false cd_X11_law i) = true := by decide +kernel
set_option maxRecDepth 100000 in
theorem ok_X11_fault : (List.range 3).all (fun i => q_okat q_tb q_mt 11 cX11_fault (some .int) false cd_X11_fault i) = true := by decide +kernel
set_option maxRecDepth 100000 in
theorem ok_X11_jar : (List.range 70).all (fun i => q_okat q_tb q_mt 11 cX11_jar (some .int) false cd_X11_jar i) = true := by decide +kernel
set_option maxRecDepth 100000 in
theorem ok_X11_advice : (List.range 19).all (fun i => q_okat q_tb q_mt 11 cX11_advice (some .int) false cd_X11_advice i) = true := by decide +kernel
set_option maxRecDepth 100000 in
theorem ok_X11_light : (List.range 8).all (fun i => q_okat q_tb q_mt 11 cX11_light (some .int) false cd_X11_light i) = true := by decide +kernel
set_option maxRecDepth 100000 in
theorem ok_X11_need : (List.range 42).all (fun i => q_okat q_tb q_mt 11 cX11_need (some .int) false cd_X11_need i) = true := by decide +kernel
set_option maxRecDepth 100000 in
theorem ok_X11_ask : (List.range 34).all (fun i => q_okat q_tb q_mt 11 cX11_ask (some .int) false cd_X11_ask i) = true := by decide +kernel
set_option maxRecDepth 100000 in
theorem ok_X11_mix : (List.range 42).all (fun i => q_okat q_tb q_mt 11 cX11_mix (some .int) false cd_X11_mix i) = true := by decide +kernel
set_option maxRecDepth 100000 in
theorem ok_X11_close : (List.range 19).all (fun i => q_okat q_tb q_mt 11 cX11_close (some .boolean) false cd_X11_close i) = true := by decide +kernel
set_option maxRecDepth 100000 in
theorem ok_X11_label : (List.range 28).all (fun i => q_okat q_tb q_mt 11 cX11_label (some .int) false cd_X11_label i) = true := by decide +kernel
set_option maxRecDepth 100000 in
theorem ok_X11_move : (List.range 44).all (fun i => q_okat q_tb q_mt 11 cX11_move (some .int) false cd_X11_move i) = true := by decide +kernel
set_option maxRecDepth 100000 in
theorem ok_X11_years : (List.range 32).all (fun i => q_okat q_tb q_mt 11 cX11_years (some .int) false cd_X11_years i) = true := by decide +kernel
set_option maxRecDepth 100000 in
theorem ok_X11_mixture : (List.range 12).all (fun i => q_okat q_tb q_mt 11 cX11_mixture (some .int) false cd_X11_mixture i) = true := by decide +kernel
set_option maxRecDepth 100000 in
theorem ok_X11_best : (List.range 11).all (fun i => q_okat q_tb q_mt 11 cX11_best (some .int) false cd_X11_best i) = true := by decide +kernel
set_option maxRecDepth 100000 in
theorem ok_X11_coalition : (List.range 4).all (fun i => q_okat q_tb q_mt 11 cX11_coalition (some .int) false cd_X11_coalition i) = true := by decide +kernel
set_option maxRecDepth 100000 in
theorem ok_X11_agree : (List.range 9).all (fun i => q_okat q_tb q_mt 11 cX11_agree (some .int) false cd_X11_agree i) = true := by decide +kernel
set_option maxRecDepth 100000 in
theorem ok_X11_cover : (List.range 8).all (fun i => q_okat q_tb q_mt 11 cX11_cover (some .int) false cd_X11_cover i) = true := by decide +kernel
set_option maxRecDepth 100000 in
theorem ok_X11_plan : (List.range 4).all (fun i => q_okat q_tb q_mt 11 cX11_plan (some .int) false cd_X11_plan i) = true := by decide +kernel
set_option maxRecDepth 100000 in
theorem ok_X11_unmet : (List.range 4).all (fun i => q_okat q_tb q_mt 11 cX11_unmet (some .int) false cd_X11_unmet i) = true := by decide +kernel
set_option maxRecDepth 100000 in
theorem ok_X11_tastes : (List.range 32).all (fun i => q_okat q_tb q_mt 11 cX11_tastes (some .int) false cd_X11_tastes i) = true := by decide +kernel
set_option maxRecDepth 100000 in
theorem ok_X11_next : (List.range 31).all (fun i => q_okat q_tb q_mt 11 cX11_next (some .int) false cd_X11_next i) = true := by decide +kernel
set_option maxRecDepth 100000 in
theorem ok_X11_harm : (List.range 4).all (fun i => q_okat q_tb q_mt 11 cX11_harm (some .int) false cd_X11_harm i) = true := by decide +kernel
set_option maxRecDepth 100000 in
theorem ok_X11_arranged : (List.range 15).all (fun i => q_okat q_tb q_mt 11 cX11_arranged (some .int) false cd_X11_arranged i) = true := by decide +kernel
set_option maxRecDepth 100000 in
theorem ok_X11_falls : (List.range 14).all (fun i => q_okat q_tb q_mt 11 cX11_falls (some .int) false cd_X11_falls i) = true := by decide +kernel
set_option maxRecDepth 100000 in
theorem ok_X11_wins : (List.range 9).all (fun i => q_okat q_tb q_mt 11 cX11_wins (some .boolean) false cd_X11_wins i) = true := by decide +kernel
set_option maxRecDepth 100000 in
theorem ok_X11_smallest : (List.range 10).all (fun i => q_okat q_tb q_mt 11 cX11_smallest (some .int) false cd_X11_smallest i) = true := by decide +kernel
set_option maxRecDepth 100000 in
theorem ok_X11_dummies : (List.range 4).all (fun i => q_okat q_tb q_mt 11 cX11_dummies (some .int) false cd_X11_dummies i) = true := by decide +kernel
set_option maxRecDepth 100000 in
theorem ok_X11_war : (List.range 12).all (fun i => q_okat q_tb q_mt 11 cX11_war (some .int) false cd_X11_war i) = true := by decide +kernel
set_option maxRecDepth 100000 in
theorem ok_X11_ahead : (List.range 45).all (fun i => q_okat q_tb q_mt 11 cX11_ahead (some .int) false cd_X11_ahead i) = true := by decide +kernel
set_option maxRecDepth 100000 in
theorem ok_X11_spoils : (List.range 15).all (fun i => q_okat q_tb q_mt 11 cX11_spoils (some .int) false cd_X11_spoils i) = true := by decide +kernel
set_option maxRecDepth 100000 in
theorem ok_X11_ripe : (List.range 12).all (fun i => q_okat q_tb q_mt 11 cX11_ripe (some .int) false cd_X11_ripe i) = true := by decide +kernel
set_option maxRecDepth 100000 in
theorem ok_X11_goes : (List.range 8).all (fun i => q_okat q_tb q_mt 11 cX11_goes (some .int) false cd_X11_goes i) = true := by decide +kernel
set_option maxRecDepth 100000 in
theorem ok_X11_wrong : (List.range 48).all (fun i => q_okat q_tb q_mt 11 cX11_wrong (some .int) false cd_X11_wrong i) = true := by decide +kernel
set_option maxRecDepth 100000 in
theorem ok_X11_whose : (List.range 23).all (fun i => q_okat q_tb q_mt 11 cX11_whose (some .int) false cd_X11_whose i) = true := by decide +kernel
set_option maxRecDepth 100000 in
theorem ok_X11_ring : (List.range 33).all (fun i => q_okat q_tb q_mt 11 cX11_ring (some .int) false cd_X11_ring i) = true := by decide +kernel
set_option maxRecDepth 100000 in
theorem ok_X11_asked : (List.range 22).all (fun i => q_okat q_tb q_mt 11 cX11_asked (some .int) false cd_X11_asked i) = true := by decide +kernel
set_option maxRecDepth 100000 in
theorem ok_X11_led : (List.range 9).all (fun i => q_okat q_tb q_mt 11 cX11_led (some .int) false cd_X11_led i) = true := by decide +kernel
set_option maxRecDepth 100000 in
theorem ok_X11_trial : (List.range 23).all (fun i => q_okat q_tb q_mt 11 cX11_trial (some .int) false cd_X11_trial i) = true := by decide +kernel
set_option maxRecDepth 100000 in
theorem ok_X11_span : (List.range 9).all (fun i => q_okat q_tb q_mt 11 cX11_span (some .int) false cd_X11_span i) = true := by decide +kernel
set_option maxRecDepth 100000 in
theorem ok_X11_log : (List.range 27).all (fun i => q_okat q_tb q_mt 11 cX11_log (some .int) false cd_X11_log i) = true := by decide +kernel
set_option maxRecDepth 100000 in
theorem ok_X11_seed : (List.range 10).all (fun i => q_okat q_tb q_mt 11 cX11_seed (some .int) false cd_X11_seed i) = true := by decide +kernel
set_option maxRecDepth 100000 in
theorem ok_X11_undo : (List.range 6).all (fun i => q_okat q_tb q_mt 11 cX11_undo (some .boolean) false cd_X11_undo i) = true := by decide +kernel
set_option maxRecDepth 100000 in
theorem ok_X11_image : (List.range 24).all (fun i => q_okat q_tb q_mt 11 cX11_image none false cd_X11_image i) = true := by decide +kernel
set_option maxRecDepth 100000 in
theorem ok_X11_back : (List.range 30).all (fun i => q_okat q_tb q_mt 11 cX11_back (some .boolean) false cd_X11_back i) = true := by decide +kernel
set_option maxRecDepth 100000 in
theorem ok_X11_count : (List.range 66).all (fun i => q_okat q_tb q_mt 11 cX11_count (some .int) false cd_X11_count i) = true := by decide +kernel
set_option maxRecDepth 100000 in
theorem ok_X11_needJar : (List.range 11).all (fun i => q_okat q_tb q_mt 11 cX11_needJar none false cd_X11_needJar i) = true := by decide +kernel
set_option maxRecDepth 100000 in
theorem ok_X11_needMatter : (List.range 11).all (fun i => q_okat q_tb q_mt 11 cX11_needMatter none false cd_X11_needMatter i) = true := by decide +kernel
set_option maxRecDepth 100000 in
theorem ok_X11_needPlace : (List.range 11).all (fun i => q_okat q_tb q_mt 11 cX11_needPlace none false cd_X11_needPlace i) = true := by decide +kernel
set_option maxRecDepth 100000 in
theorem ok_X11_needNumber : (List.range 11).all (fun i => q_okat q_tb q_mt 11 cX11_needNumber none false cd_X11_needNumber i) = true := by decide +kernel
set_option maxRecDepth 100000 in
theorem ok_X11_needTwo : (List.range 17).all (fun i => q_okat q_tb q_mt 11 cX11_needTwo none false cd_X11_needTwo i) = true := by decide +kernel
set_option maxRecDepth 100000 in
theorem ok_X11_needSpoon : (List.range 12).all (fun i => q_okat q_tb q_mt 11 cX11_needSpoon none false cd_X11_needSpoon i) = true := by decide +kernel
set_option maxRecDepth 100000 in
theorem ok_J6_bitCount_0f7a4 : (List.range 42).all (fun i => q_okat q_tb q_mt 14 cJ6_bitCount_0f7a4 (some .int) false cd_J6_bitCount_0f7a4 i) = true := by decide +kernel
set_option maxRecDepth 100000 in
theorem ok_J9_floorMod_7cf53 : (List.range 16).all (fun i => q_okat q_tb q_mt 15 cJ9_floorMod_7cf53 (some .int) false cd_J9_floorMod_7cf53 i) = true := by decide +kernel

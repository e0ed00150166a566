set_option maxRecDepth 100000 in
theorem ok_X12_init : (List.range 61).all (fun i => q_okat q_tb q_mt 12 cX12_init none true cd_X12_init i) = true := by decide +kernel
set_option maxRecDepth 100000 in
theorem ok_X12_thrown : (List.range 3).all (fun i => q_okat q_tb q_mt 12 cX12_thrown (some .int) false cd_X12_thrown i) = true := by decide +kernel
set_option maxRecDepth 100000 in
theorem ok_X12_isIn : (List.range 10).all (fun i => q_okat q_tb q_mt 12 cX12_isIn (some .boolean) false cd_X12_isIn i) = true := by decide +kernel
set_option maxRecDepth 100000 in
theorem ok_X12_lesser : (List.range 7).all (fun i => q_okat q_tb q_mt 12 cX12_lesser (some .int) false cd_X12_lesser i) = true := by decide +kernel
set_option maxRecDepth 100000 in
theorem ok_X12_greater : (List.range 7).all (fun i => q_okat q_tb q_mt 12 cX12_greater (some .int) false cd_X12_greater i) = true := by decide +kernel
set_option maxRecDepth 100000 in
theorem ok_X12_size : (List.range 7).all (fun i => q_okat q_tb q_mt 12 cX12_size (some .int) false cd_X12_size i) = true := by decide +kernel
set_option maxRecDepth 100000 in
theorem ok_X12_isOf : (List.range 11).all (fun i => q_okat q_tb q_mt 12 cX12_isOf (some .boolean) false cd_X12_isOf i) = true := by decide +kernel
set_option maxRecDepth 100000 in
theorem ok_X12_bits : (List.range 19).all (fun i => q_okat q_tb q_mt 12 cX12_bits (some .int) false cd_X12_bits i) = true := by decide +kernel
set_option maxRecDepth 100000 in
theorem ok_X12_of : (List.range 11).all (fun i => q_okat q_tb q_mt 12 cX12_of (some .int) false cd_X12_of i) = true := by decide +kernel
set_option maxRecDepth 100000 in
theorem ok_X12_has : (List.range 12).all (fun i => q_okat q_tb q_mt 12 cX12_has none false cd_X12_has i) = true := by decide +kernel
set_option maxRecDepth 100000 in
theorem ok_X12_ofNeed : (List.range 11).all (fun i => q_okat q_tb q_mt 12 cX12_ofNeed (some .int) false cd_X12_ofNeed i) = true := by decide +kernel
set_option maxRecDepth 100000 in
theorem ok_X12_isJar : (List.range 10).all (fun i => q_okat q_tb q_mt 12 cX12_isJar (some .boolean) false cd_X12_isJar i) = true := by decide +kernel
set_option maxRecDepth 100000 in
theorem ok_X12_isMatter : (List.range 5).all (fun i => q_okat q_tb q_mt 12 cX12_isMatter (some .boolean) false cd_X12_isMatter i) = true := by decide +kernel
set_option maxRecDepth 100000 in
theorem ok_X12_isPlace : (List.range 5).all (fun i => q_okat q_tb q_mt 12 cX12_isPlace (some .boolean) false cd_X12_isPlace i) = true := by decide +kernel
set_option maxRecDepth 100000 in
theorem ok_X12_jarAt : (List.range 20).all (fun i => q_okat q_tb q_mt 12 cX12_jarAt (some .int) false cd_X12_jarAt i) = true := by decide +kernel
set_option maxRecDepth 100000 in
theorem ok_X12_allJars : (List.range 9).all (fun i => q_okat q_tb q_mt 12 cX12_allJars (some .int) false cd_X12_allJars i) = true := by decide +kernel
set_option maxRecDepth 100000 in
theorem ok_X12_feed : (List.range 65).all (fun i => q_okat q_tb q_mt 12 cX12_feed (some .int) false cd_X12_feed i) = true := by decide +kernel
set_option maxRecDepth 100000 in
theorem ok_X12_end : (List.range 16).all (fun i => q_okat q_tb q_mt 12 cX12_end (some .boolean) false cd_X12_end i) = true := by decide +kernel
set_option maxRecDepth 100000 in
theorem ok_X12_letter : (List.range 17).all (fun i => q_okat q_tb q_mt 12 cX12_letter (some .int) false cd_X12_letter i) = true := by decide +kernel
set_option maxRecDepth 100000 in
theorem ok_X12_skip : (List.range 19).all (fun i => q_okat q_tb q_mt 12 cX12_skip none false cd_X12_skip i) = true := by decide +kernel
set_option maxRecDepth 100000 in
theorem ok_X12_isSign : (List.range 17).all (fun i => q_okat q_tb q_mt 12 cX12_isSign (some .boolean) false cd_X12_isSign i) = true := by decide +kernel
set_option maxRecDepth 100000 in
theorem ok_X12_has_ : (List.range 52).all (fun i => q_okat q_tb q_mt 12 cX12_has_ (some .boolean) false cd_X12_has_ i) = true := by decide +kernel
set_option maxRecDepth 100000 in
theorem ok_X12_wrong : (List.range 8).all (fun i => q_okat q_tb q_mt 12 cX12_wrong none false cd_X12_wrong i) = true := by decide +kernel
set_option maxRecDepth 100000 in
theorem ok_X12_place : (List.range 5).all (fun i => q_okat q_tb q_mt 12 cX12_place (some .int) false cd_X12_place i) = true := by decide +kernel
set_option maxRecDepth 100000 in
theorem ok_X12_figures : (List.range 71).all (fun i => q_okat q_tb q_mt 12 cX12_figures (some .int) false cd_X12_figures i) = true := by decide +kernel
set_option maxRecDepth 100000 in
theorem ok_X12_after : (List.range 17).all (fun i => q_okat q_tb q_mt 12 cX12_after (some .int) false cd_X12_after i) = true := by decide +kernel
set_option maxRecDepth 100000 in
theorem ok_X12_liquidWord : (List.range 29).all (fun i => q_okat q_tb q_mt 12 cX12_liquidWord (some .int) false cd_X12_liquidWord i) = true := by decide +kernel
set_option maxRecDepth 100000 in
theorem ok_X12_six : (List.range 52).all (fun i => q_okat q_tb q_mt 12 cX12_six (some .int) false cd_X12_six i) = true := by decide +kernel
set_option maxRecDepth 100000 in
theorem ok_X12_jarLine : (List.range 136).all (fun i => q_okat q_tb q_mt 12 cX12_jarLine none false cd_X12_jarLine i) = true := by decide +kernel
set_option maxRecDepth 100000 in
theorem ok_X12_needLine : (List.range 71).all (fun i => q_okat q_tb q_mt 12 cX12_needLine none false cd_X12_needLine i) = true := by decide +kernel
set_option maxRecDepth 100000 in
theorem ok_X12_tells : (List.range 15).all (fun i => q_okat q_tb q_mt 12 cX12_tells none false cd_X12_tells i) = true := by decide +kernel
set_option maxRecDepth 100000 in
theorem ok_X12_cabinetLine : (List.range 71).all (fun i => q_okat q_tb q_mt 12 cX12_cabinetLine none false cd_X12_cabinetLine i) = true := by decide +kernel
set_option maxRecDepth 100000 in
theorem ok_X12_begins : (List.range 23).all (fun i => q_okat q_tb q_mt 12 cX12_begins none false cd_X12_begins i) = true := by decide +kernel
set_option maxRecDepth 100000 in
theorem ok_X12_read : (List.range 73).all (fun i => q_okat q_tb q_mt 12 cX12_read (some .int) false cd_X12_read i) = true := by decide +kernel
set_option maxRecDepth 100000 in
theorem ok_X12_putsAside : (List.range 16).all (fun i => q_okat q_tb q_mt 12 cX12_putsAside none false cd_X12_putsAside i) = true := by decide +kernel
set_option maxRecDepth 100000 in
theorem ok_X12_comesBack : (List.range 16).all (fun i => q_okat q_tb q_mt 12 cX12_comesBack none false cd_X12_comesBack i) = true := by decide +kernel
set_option maxRecDepth 100000 in
theorem ok_X12_cabinet : (List.range 49).all (fun i => q_okat q_tb q_mt 12 cX12_cabinet (some .int) false cd_X12_cabinet i) = true := by decide +kernel
set_option maxRecDepth 100000 in
theorem ok_X12_part : (List.range 84).all (fun i => q_okat q_tb q_mt 12 cX12_part (some .int) false cd_X12_part i) = true := by decide +kernel
set_option maxRecDepth 100000 in
theorem ok_X12_sum : (List.range 25).all (fun i => q_okat q_tb q_mt 12 cX12_sum (some .int) false cd_X12_sum i) = true := by decide +kernel
set_option maxRecDepth 100000 in
theorem ok_X12_plain : (List.range 92).all (fun i => q_okat q_tb q_mt 12 cX12_plain (some .boolean) false cd_X12_plain i) = true := by decide +kernel
set_option maxRecDepth 100000 in
theorem ok_X12_atom : (List.range 84).all (fun i => q_okat q_tb q_mt 12 cX12_atom (some .boolean) false cd_X12_atom i) = true := by decide +kernel
set_option maxRecDepth 100000 in
theorem ok_X12_every : (List.range 25).all (fun i => q_okat q_tb q_mt 12 cX12_every (some .boolean) false cd_X12_every i) = true := by decide +kernel
set_option maxRecDepth 100000 in
theorem ok_X12_some : (List.range 25).all (fun i => q_okat q_tb q_mt 12 cX12_some (some .boolean) false cd_X12_some i) = true := by decide +kernel
set_option maxRecDepth 100000 in
theorem ok_X12_lawLine : (List.range 106).all (fun i => q_okat q_tb q_mt 12 cX12_lawLine none false cd_X12_lawLine i) = true := by decide +kernel
set_option maxRecDepth 100000 in
theorem ok_X12_law : (List.range 55).all (fun i => q_okat q_tb q_mt 12 cX12_law (some .int) false cd_X12_law i) = true := by decide +kernel
set_option maxRecDepth 100000 in
theorem ok_X12_fault : (List.range 6).all (fun i => q_okat q_tb q_mt 12 cX12_fault (some .int) false cd_X12_fault i) = true := by decide +kernel
set_option maxRecDepth 100000 in
theorem ok_X12_asks : (List.range 139).all (fun i => q_okat q_tb q_mt 12 cX12_asks none false cd_X12_asks i) = true := by decide +kernel
set_option maxRecDepth 100000 in
theorem ok_X12_adviceOf : (List.range 11).all (fun i => q_okat q_tb q_mt 12 cX12_adviceOf (some .int) false cd_X12_adviceOf i) = true := by decide +kernel
set_option maxRecDepth 100000 in
theorem ok_X12_sours : (List.range 84).all (fun i => q_okat q_tb q_mt 12 cX12_sours none false cd_X12_sours i) = true := by decide +kernel
set_option maxRecDepth 100000 in
theorem ok_X12_draw : (List.range 23).all (fun i => q_okat q_tb q_mt 12 cX12_draw (some .int) false cd_X12_draw i) = true := by decide +kernel
set_option maxRecDepth 100000 in
theorem ok_X12_year : (List.range 75).all (fun i => q_okat q_tb q_mt 12 cX12_year none false cd_X12_year i) = true := by decide +kernel
set_option maxRecDepth 100000 in
theorem ok_X12_passes : (List.range 21).all (fun i => q_okat q_tb q_mt 12 cX12_passes (some .int) false cd_X12_passes i) = true := by decide +kernel
set_option maxRecDepth 100000 in
theorem ok_X12_ahead : (List.range 11).all (fun i => q_okat q_tb q_mt 12 cX12_ahead none false cd_X12_ahead i) = true := by decide +kernel
set_option maxRecDepth 100000 in
theorem ok_X12_clash : (List.range 16).all (fun i => q_okat q_tb q_mt 12 cX12_clash (some .boolean) false cd_X12_clash i) = true := by decide +kernel
set_option maxRecDepth 100000 in
theorem ok_X12_clashes : (List.range 38).all (fun i => q_okat q_tb q_mt 12 cX12_clashes (some .int) false cd_X12_clashes i) = true := by decide +kernel
set_option maxRecDepth 100000 in
theorem ok_X12_alike : (List.range 53).all (fun i => q_okat q_tb q_mt 12 cX12_alike (some .int) false cd_X12_alike i) = true := by decide +kernel
set_option maxRecDepth 100000 in
theorem ok_X12_seals : (List.range 27).all (fun i => q_okat q_tb q_mt 12 cX12_seals (some .int) false cd_X12_seals i) = true := by decide +kernel
set_option maxRecDepth 100000 in
theorem ok_X12_wonBy : (List.range 12).all (fun i => q_okat q_tb q_mt 12 cX12_wonBy (some .boolean) false cd_X12_wonBy i) = true := by decide +kernel
set_option maxRecDepth 100000 in
theorem ok_X12_power : (List.range 34).all (fun i => q_okat q_tb q_mt 12 cX12_power (some .int) false cd_X12_power i) = true := by decide +kernel
set_option maxRecDepth 100000 in
theorem ok_X12_jar : (List.range 47).all (fun i => q_okat q_tb q_mt 12 cX12_jar (some .int) false cd_X12_jar i) = true := by decide +kernel
set_option maxRecDepth 100000 in
theorem ok_X12_advice : (List.range 31).all (fun i => q_okat q_tb q_mt 12 cX12_advice (some .int) false cd_X12_advice i) = true := by decide +kernel
set_option maxRecDepth 100000 in
theorem ok_X12_light : (List.range 20).all (fun i => q_okat q_tb q_mt 12 cX12_light (some .int) false cd_X12_light i) = true := by decide +kernel
set_option maxRecDepth 100000 in
theorem ok_X12_answers : (List.range 69).all (fun i => q_okat q_tb q_mt 12 cX12_answers (some .int) false cd_X12_answers i) = true := by decide +kernel
set_option maxRecDepth 100000 in
theorem ok_X12_need : (List.range 39).all (fun i => q_okat q_tb q_mt 12 cX12_need (some .int) false cd_X12_need i) = true := by decide +kernel
set_option maxRecDepth 100000 in
theorem ok_X12_remembers : (List.range 54).all (fun i => q_okat q_tb q_mt 12 cX12_remembers none false cd_X12_remembers i) = true := by decide +kernel
set_option maxRecDepth 100000 in
theorem ok_X12_takes : (List.range 16).all (fun i => q_okat q_tb q_mt 12 cX12_takes none false cd_X12_takes i) = true := by decide +kernel
set_option maxRecDepth 100000 in
theorem ok_X12_writes : (List.range 62).all (fun i => q_okat q_tb q_mt 12 cX12_writes none false cd_X12_writes i) = true := by decide +kernel
set_option maxRecDepth 100000 in
theorem ok_X12_ask : (List.range 42).all (fun i => q_okat q_tb q_mt 12 cX12_ask (some .int) false cd_X12_ask i) = true := by decide +kernel
set_option maxRecDepth 100000 in
theorem ok_X12_mixed : (List.range 20).all (fun i => q_okat q_tb q_mt 12 cX12_mixed (some .int) false cd_X12_mixed i) = true := by decide +kernel
set_option maxRecDepth 100000 in
theorem ok_X12_two : (List.range 20).all (fun i => q_okat q_tb q_mt 12 cX12_two (some .int) false cd_X12_two i) = true := by decide +kernel
set_option maxRecDepth 100000 in
theorem ok_X12_mix : (List.range 54).all (fun i => q_okat q_tb q_mt 12 cX12_mix (some .int) false cd_X12_mix i) = true := by decide +kernel
set_option maxRecDepth 100000 in
theorem ok_X12_close : (List.range 33).all (fun i => q_okat q_tb q_mt 12 cX12_close (some .boolean) false cd_X12_close i) = true := by decide +kernel
set_option maxRecDepth 100000 in
theorem ok_X12_label : (List.range 35).all (fun i => q_okat q_tb q_mt 12 cX12_label (some .int) false cd_X12_label i) = true := by decide +kernel
set_option maxRecDepth 100000 in
theorem ok_X12_move : (List.range 46).all (fun i => q_okat q_tb q_mt 12 cX12_move (some .int) false cd_X12_move i) = true := by decide +kernel
set_option maxRecDepth 100000 in
theorem ok_X12_years : (List.range 21).all (fun i => q_okat q_tb q_mt 12 cX12_years (some .int) false cd_X12_years i) = true := by decide +kernel
set_option maxRecDepth 100000 in
theorem ok_X12_mixture : (List.range 18).all (fun i => q_okat q_tb q_mt 12 cX12_mixture (some .int) false cd_X12_mixture i) = true := by decide +kernel
set_option maxRecDepth 100000 in
theorem ok_X12_best : (List.range 69).all (fun i => q_okat q_tb q_mt 12 cX12_best (some .int) false cd_X12_best i) = true := by decide +kernel
set_option maxRecDepth 100000 in
theorem ok_X12_coalition : (List.range 70).all (fun i => q_okat q_tb q_mt 12 cX12_coalition (some .int) false cd_X12_coalition i) = true := by decide +kernel
set_option maxRecDepth 100000 in
theorem ok_X12_agree : (List.range 62).all (fun i => q_okat q_tb q_mt 12 cX12_agree (some .int) false cd_X12_agree i) = true := by decide +kernel
set_option maxRecDepth 100000 in
theorem ok_X12_cover : (List.range 106).all (fun i => q_okat q_tb q_mt 12 cX12_cover (some .int) false cd_X12_cover i) = true := by decide +kernel
set_option maxRecDepth 100000 in
theorem ok_X12_finds : (List.range 110).all (fun i => q_okat q_tb q_mt 12 cX12_finds (some .boolean) false cd_X12_finds i) = true := by decide +kernel
set_option maxRecDepth 100000 in
theorem ok_X12_areMet : (List.range 41).all (fun i => q_okat q_tb q_mt 12 cX12_areMet (some .boolean) false cd_X12_areMet i) = true := by decide +kernel
set_option maxRecDepth 100000 in
theorem ok_X12_plan : (List.range 47).all (fun i => q_okat q_tb q_mt 12 cX12_plan (some .int) false cd_X12_plan i) = true := by decide +kernel
set_option maxRecDepth 100000 in
theorem ok_X12_unmet : (List.range 21).all (fun i => q_okat q_tb q_mt 12 cX12_unmet (some .int) false cd_X12_unmet i) = true := by decide +kernel
set_option maxRecDepth 100000 in
theorem ok_X12_tasted : (List.range 100).all (fun i => q_okat q_tb q_mt 12 cX12_tasted (some .int) false cd_X12_tasted i) = true := by decide +kernel
set_option maxRecDepth 100000 in
theorem ok_X12_tastes : (List.range 23).all (fun i => q_okat q_tb q_mt 12 cX12_tastes (some .int) false cd_X12_tastes i) = true := by decide +kernel
set_option maxRecDepth 100000 in
theorem ok_X12_group : (List.range 43).all (fun i => q_okat q_tb q_mt 12 cX12_group (some .int) false cd_X12_group i) = true := by decide +kernel
set_option maxRecDepth 100000 in
theorem ok_X12_next : (List.range 48).all (fun i => q_okat q_tb q_mt 12 cX12_next (some .int) false cd_X12_next i) = true := by decide +kernel
set_option maxRecDepth 100000 in
theorem ok_X12_harm : (List.range 34).all (fun i => q_okat q_tb q_mt 12 cX12_harm (some .int) false cd_X12_harm i) = true := by decide +kernel
set_option maxRecDepth 100000 in
theorem ok_X12_from : (List.range 9).all (fun i => q_okat q_tb q_mt 12 cX12_from (some .int) false cd_X12_from i) = true := by decide +kernel
set_option maxRecDepth 100000 in
theorem ok_X12_harmAt : (List.range 12).all (fun i => q_okat q_tb q_mt 12 cX12_harmAt (some .int) false cd_X12_harmAt i) = true := by decide +kernel
set_option maxRecDepth 100000 in
theorem ok_X12_arranged : (List.range 154).all (fun i => q_okat q_tb q_mt 12 cX12_arranged (some .int) false cd_X12_arranged i) = true := by decide +kernel
set_option maxRecDepth 100000 in
theorem ok_X12_fallsFrom : (List.range 33).all (fun i => q_okat q_tb q_mt 12 cX12_fallsFrom (some .int) false cd_X12_fallsFrom i) = true := by decide +kernel
set_option maxRecDepth 100000 in
theorem ok_X12_falls : (List.range 43).all (fun i => q_okat q_tb q_mt 12 cX12_falls (some .int) false cd_X12_falls i) = true := by decide +kernel
set_option maxRecDepth 100000 in
theorem ok_X12_wins : (List.range 7).all (fun i => q_okat q_tb q_mt 12 cX12_wins (some .boolean) false cd_X12_wins i) = true := by decide +kernel
set_option maxRecDepth 100000 in
theorem ok_X12_smallest : (List.range 40).all (fun i => q_okat q_tb q_mt 12 cX12_smallest (some .int) false cd_X12_smallest i) = true := by decide +kernel
set_option maxRecDepth 100000 in
theorem ok_X12_dummies : (List.range 29).all (fun i => q_okat q_tb q_mt 12 cX12_dummies (some .int) false cd_X12_dummies i) = true := by decide +kernel
set_option maxRecDepth 100000 in
theorem ok_X12_worth : (List.range 16).all (fun i => q_okat q_tb q_mt 12 cX12_worth (some .int) false cd_X12_worth i) = true := by decide +kernel
set_option maxRecDepth 100000 in
theorem ok_X12_war : (List.range 81).all (fun i => q_okat q_tb q_mt 12 cX12_war (some .int) false cd_X12_war i) = true := by decide +kernel
set_option maxRecDepth 100000 in
theorem ok_X12_ahead_ : (List.range 65).all (fun i => q_okat q_tb q_mt 12 cX12_ahead_ (some .int) false cd_X12_ahead_ i) = true := by decide +kernel
set_option maxRecDepth 100000 in
theorem ok_X12_spoils : (List.range 52).all (fun i => q_okat q_tb q_mt 12 cX12_spoils (some .int) false cd_X12_spoils i) = true := by decide +kernel
set_option maxRecDepth 100000 in
theorem ok_X12_ripe : (List.range 56).all (fun i => q_okat q_tb q_mt 12 cX12_ripe (some .int) false cd_X12_ripe i) = true := by decide +kernel
set_option maxRecDepth 100000 in
theorem ok_X12_goes : (List.range 51).all (fun i => q_okat q_tb q_mt 12 cX12_goes (some .int) false cd_X12_goes i) = true := by decide +kernel
set_option maxRecDepth 100000 in
theorem ok_X12_wrong_ : (List.range 47).all (fun i => q_okat q_tb q_mt 12 cX12_wrong_ (some .int) false cd_X12_wrong_ i) = true := by decide +kernel
set_option maxRecDepth 100000 in
theorem ok_X12_whose : (List.range 34).all (fun i => q_okat q_tb q_mt 12 cX12_whose (some .int) false cd_X12_whose i) = true := by decide +kernel
set_option maxRecDepth 100000 in
theorem ok_X12_ring : (List.range 39).all (fun i => q_okat q_tb q_mt 12 cX12_ring (some .int) false cd_X12_ring i) = true := by decide +kernel
set_option maxRecDepth 100000 in
theorem ok_X12_logged : (List.range 11).all (fun i => q_okat q_tb q_mt 12 cX12_logged (some .int) false cd_X12_logged i) = true := by decide +kernel
set_option maxRecDepth 100000 in
theorem ok_X12_often : (List.range 32).all (fun i => q_okat q_tb q_mt 12 cX12_often (some .int) false cd_X12_often i) = true := by decide +kernel
set_option maxRecDepth 100000 in
theorem ok_X12_asked : (List.range 52).all (fun i => q_okat q_tb q_mt 12 cX12_asked (some .int) false cd_X12_asked i) = true := by decide +kernel
set_option maxRecDepth 100000 in
theorem ok_X12_led : (List.range 36).all (fun i => q_okat q_tb q_mt 12 cX12_led (some .int) false cd_X12_led i) = true := by decide +kernel
set_option maxRecDepth 100000 in
theorem ok_X12_spoons : (List.range 21).all (fun i => q_okat q_tb q_mt 12 cX12_spoons (some .int) false cd_X12_spoons i) = true := by decide +kernel
set_option maxRecDepth 100000 in
theorem ok_X12_trial : (List.range 32).all (fun i => q_okat q_tb q_mt 12 cX12_trial (some .int) false cd_X12_trial i) = true := by decide +kernel
set_option maxRecDepth 100000 in
theorem ok_X12_span : (List.range 57).all (fun i => q_okat q_tb q_mt 12 cX12_span (some .int) false cd_X12_span i) = true := by decide +kernel
set_option maxRecDepth 100000 in
theorem ok_X12_log : (List.range 32).all (fun i => q_okat q_tb q_mt 12 cX12_log (some .int) false cd_X12_log i) = true := by decide +kernel
set_option maxRecDepth 100000 in
theorem ok_X12_seed : (List.range 15).all (fun i => q_okat q_tb q_mt 12 cX12_seed (some .int) false cd_X12_seed i) = true := by decide +kernel
set_option maxRecDepth 100000 in
theorem ok_X12_undo : (List.range 36).all (fun i => q_okat q_tb q_mt 12 cX12_undo (some .boolean) false cd_X12_undo i) = true := by decide +kernel
set_option maxRecDepth 100000 in
theorem ok_X12_image : (List.range 22).all (fun i => q_okat q_tb q_mt 12 cX12_image none false cd_X12_image i) = true := by decide +kernel
set_option maxRecDepth 100000 in
theorem ok_X12_back : (List.range 28).all (fun i => q_okat q_tb q_mt 12 cX12_back (some .boolean) false cd_X12_back i) = true := by decide +kernel
set_option maxRecDepth 100000 in
theorem ok_X12_opens : (List.range 28).all (fun i => q_okat q_tb q_mt 12 cX12_opens (some .int) false cd_X12_opens i) = true := by decide +kernel
set_option maxRecDepth 100000 in
theorem ok_X12_count : (List.range 100).all (fun i => q_okat q_tb q_mt 12 cX12_count (some .int) false cd_X12_count i) = true := by decide +kernel

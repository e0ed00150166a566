set_option maxRecDepth 100000 in
theorem ok_L_cabinet : (List.range 15).all (fun i => q_okat q_tb q_mt 13 cL_cabinet (some .int) false cd_L_cabinet i) = true := by decide +kernel
set_option maxRecDepth 100000 in
theorem ok_L_law : (List.range 12).all (fun i => q_okat q_tb q_mt 13 cL_law (some .int) false cd_L_law i) = true := by decide +kernel
set_option maxRecDepth 100000 in
theorem ok_L_jar : (List.range 17).all (fun i => q_okat q_tb q_mt 13 cL_jar (some .int) false cd_L_jar i) = true := by decide +kernel
set_option maxRecDepth 100000 in
theorem ok_L_advice : (List.range 15).all (fun i => q_okat q_tb q_mt 13 cL_advice (some .int) false cd_L_advice i) = true := by decide +kernel
set_option maxRecDepth 100000 in
theorem ok_L_light : (List.range 13).all (fun i => q_okat q_tb q_mt 13 cL_light (some .int) false cd_L_light i) = true := by decide +kernel
set_option maxRecDepth 100000 in
theorem ok_L_need : (List.range 17).all (fun i => q_okat q_tb q_mt 13 cL_need (some .int) false cd_L_need i) = true := by decide +kernel
set_option maxRecDepth 100000 in
theorem ok_L_ask : (List.range 17).all (fun i => q_okat q_tb q_mt 13 cL_ask (some .int) false cd_L_ask i) = true := by decide +kernel
set_option maxRecDepth 100000 in
theorem ok_L_mix : (List.range 21).all (fun i => q_okat q_tb q_mt 13 cL_mix (some .int) false cd_L_mix i) = true := by decide +kernel
set_option maxRecDepth 100000 in
theorem ok_L_close : (List.range 16).all (fun i => q_okat q_tb q_mt 13 cL_close (some .int) false cd_L_close i) = true := by decide +kernel
set_option maxRecDepth 100000 in
theorem ok_L_label : (List.range 14).all (fun i => q_okat q_tb q_mt 13 cL_label (some .int) false cd_L_label i) = true := by decide +kernel
set_option maxRecDepth 100000 in
theorem ok_L_move : (List.range 14).all (fun i => q_okat q_tb q_mt 13 cL_move (some .int) false cd_L_move i) = true := by decide +kernel
set_option maxRecDepth 100000 in
theorem ok_L_years : (List.range 13).all (fun i => q_okat q_tb q_mt 13 cL_years (some .int) false cd_L_years i) = true := by decide +kernel
set_option maxRecDepth 100000 in
theorem ok_L_mixture : (List.range 18).all (fun i => q_okat q_tb q_mt 13 cL_mixture (some .int) false cd_L_mixture i) = true := by decide +kernel
set_option maxRecDepth 100000 in
theorem ok_L_best : (List.range 17).all (fun i => q_okat q_tb q_mt 13 cL_best (some .int) false cd_L_best i) = true := by decide +kernel
set_option maxRecDepth 100000 in
theorem ok_L_cover : (List.range 13).all (fun i => q_okat q_tb q_mt 13 cL_cover (some .int) false cd_L_cover i) = true := by decide +kernel
set_option maxRecDepth 100000 in
theorem ok_L_tastes : (List.range 13).all (fun i => q_okat q_tb q_mt 13 cL_tastes (some .int) false cd_L_tastes i) = true := by decide +kernel
set_option maxRecDepth 100000 in
theorem ok_L_next : (List.range 12).all (fun i => q_okat q_tb q_mt 13 cL_next (some .int) false cd_L_next i) = true := by decide +kernel
set_option maxRecDepth 100000 in
theorem ok_L_arranged : (List.range 13).all (fun i => q_okat q_tb q_mt 13 cL_arranged (some .int) false cd_L_arranged i) = true := by decide +kernel
set_option maxRecDepth 100000 in
theorem ok_L_falls : (List.range 13).all (fun i => q_okat q_tb q_mt 13 cL_falls (some .int) false cd_L_falls i) = true := by decide +kernel
set_option maxRecDepth 100000 in
theorem ok_L_war : (List.range 18).all (fun i => q_okat q_tb q_mt 13 cL_war (some .int) false cd_L_war i) = true := by decide +kernel
set_option maxRecDepth 100000 in
theorem ok_L_ahead : (List.range 21).all (fun i => q_okat q_tb q_mt 13 cL_ahead (some .int) false cd_L_ahead i) = true := by decide +kernel
set_option maxRecDepth 100000 in
theorem ok_L_spoils : (List.range 18).all (fun i => q_okat q_tb q_mt 13 cL_spoils (some .int) false cd_L_spoils i) = true := by decide +kernel
set_option maxRecDepth 100000 in
theorem ok_L_ripe : (List.range 15).all (fun i => q_okat q_tb q_mt 13 cL_ripe (some .int) false cd_L_ripe i) = true := by decide +kernel
set_option maxRecDepth 100000 in
theorem ok_L_goes : (List.range 13).all (fun i => q_okat q_tb q_mt 13 cL_goes (some .int) false cd_L_goes i) = true := by decide +kernel
set_option maxRecDepth 100000 in
theorem ok_L_whose : (List.range 13).all (fun i => q_okat q_tb q_mt 13 cL_whose (some .int) false cd_L_whose i) = true := by decide +kernel
set_option maxRecDepth 100000 in
theorem ok_L_ring : (List.range 13).all (fun i => q_okat q_tb q_mt 13 cL_ring (some .int) false cd_L_ring i) = true := by decide +kernel
set_option maxRecDepth 100000 in
theorem ok_L_asked : (List.range 13).all (fun i => q_okat q_tb q_mt 13 cL_asked (some .int) false cd_L_asked i) = true := by decide +kernel
set_option maxRecDepth 100000 in
theorem ok_L_led : (List.range 13).all (fun i => q_okat q_tb q_mt 13 cL_led (some .int) false cd_L_led i) = true := by decide +kernel
set_option maxRecDepth 100000 in
theorem ok_L_trial : (List.range 14).all (fun i => q_okat q_tb q_mt 13 cL_trial (some .int) false cd_L_trial i) = true := by decide +kernel
set_option maxRecDepth 100000 in
theorem ok_L_span : (List.range 14).all (fun i => q_okat q_tb q_mt 13 cL_span (some .int) false cd_L_span i) = true := by decide +kernel
set_option maxRecDepth 100000 in
theorem ok_L_log : (List.range 14).all (fun i => q_okat q_tb q_mt 13 cL_log (some .int) false cd_L_log i) = true := by decide +kernel

def ST_0 (Rel : Mem → Mem → Prop) : Prop := ∀ (u v : Mem) (x1 : Int32) (x2 : Int64), Rel u v → ∃ (r : Int32) (u' v' : Mem), F_X6_print u x1 x2 = some (r, u') ∧ F_X7_print v x1 x2 = some (r, v') ∧ Rel u' v'
def ST_1 (Rel : Mem → Mem → Prop) : Prop := ∀ (u v : Mem) (x1 : Int32) (x2 : Int32), Rel u v → ∃ (r : Int32) (u' v' : Mem), F_X6_of u x1 x2 = some (r, u') ∧ F_X7_of v x1 x2 = some (r, v') ∧ Rel u' v'
def ST_2 (Rel : Mem → Mem → Prop) : Prop := ∀ (u v : Mem) (x1 : Int32) (x2 : Int32), Rel u v → ∃ (r : Int64) (u' v' : Mem), F_X6_marks u x1 x2 = some (r, u') ∧ F_X7_marks v x1 x2 = some (r, v') ∧ Rel u' v'
def ST_3 (Rel : Mem → Mem → Prop) : Prop := ∀ (u v : Mem) (x1 : Int32) (x2 : Int32) (x3 : Int32), Rel u v → ∃ (r : Int32) (u' v' : Mem), F_X6_set u x1 x2 x3 = some (r, u') ∧ F_X7_set v x1 x2 x3 = some (r, v') ∧ Rel u' v'
def ST_4 (Rel : Mem → Mem → Prop) : Prop := ∀ (u v : Mem) (x1 : Int32) (x2 : Int32) (x3 : Int32), (x3 = 0 ∨ x3 = 1) → Rel u v → ∃ (r : Int32) (u' v' : Mem), F_X6_scratch u x1 x2 x3 = some (r, u') ∧ F_X7_scratch v x1 x2 x3 = some (r, v') ∧ Rel u' v'
def ST_5 (Rel : Mem → Mem → Prop) : Prop := ∀ (u v : Mem) (x1 : Int32), Rel u v → ∃ (r : Int32) (u' v' : Mem), F_X6_look u x1 = some (r, u') ∧ F_X7_look v x1 = some (r, v') ∧ Rel u' v'
def ST_6 (Rel : Mem → Mem → Prop) : Prop := ∀ (u v : Mem) (x1 : Int32) (x2 : Int32), Rel u v → ∃ (r : Int32) (u' v' : Mem), F_X6_turn u x1 x2 = some (r, u') ∧ F_X7_turn v x1 x2 = some (r, v') ∧ Rel u' v'
def ST_7 (Rel : Mem → Mem → Prop) : Prop := ∀ (u v : Mem) (x1 : Int32) (x2 : Int32), Rel u v → ∃ (r : Int32) (u' v' : Mem), F_X6_as u x1 x2 = some (r, u') ∧ F_X7_as v x1 x2 = some (r, v') ∧ Rel u' v'
def ST_8 (Rel : Mem → Mem → Prop) : Prop := ∀ (u v : Mem) (x1 : Int32), Rel u v → ∃ (r : Int32) (u' v' : Mem), F_X6_slack u x1 = some (r, u') ∧ F_X7_slack v x1 = some (r, v') ∧ Rel u' v'
def ST_9 (Rel : Mem → Mem → Prop) : Prop := ∀ (u v : Mem) (x1 : Int32) (x2 : Int32), Rel u v → ∃ (r : Int32) (u' v' : Mem), F_X6_ahead u x1 x2 = some (r, u') ∧ F_X7_ahead v x1 x2 = some (r, v') ∧ Rel u' v'
def ST_10 (Rel : Mem → Mem → Prop) : Prop := ∀ (u v : Mem) (x1 : Int32) (x2 : Int32), Rel u v → ∃ (r : Int32) (u' v' : Mem), F_X6_order u x1 x2 = some (r, u') ∧ F_X7_order v x1 x2 = some (r, v') ∧ Rel u' v'
def ST_11 (Rel : Mem → Mem → Prop) : Prop := ∀ (u v : Mem) (x1 : Int32) (x2 : Int32), Rel u v → ∃ (r : Int32) (u' v' : Mem), F_X6_alike u x1 x2 = some (r, u') ∧ F_X7_alike v x1 x2 = some (r, v') ∧ Rel u' v'
def ST_12 (Rel : Mem → Mem → Prop) : Prop := ∀ (u v : Mem) (x1 : Int32) (x2 : Int32), Rel u v → ∃ (r : Int32) (u' v' : Mem), F_X6_slackFor u x1 x2 = some (r, u') ∧ F_X7_slackFor v x1 x2 = some (r, v') ∧ Rel u' v'
def ST_13 (Rel : Mem → Mem → Prop) : Prop := ∀ (u v : Mem) (x1 : Int32) (x2 : Int32), Rel u v → ∃ (r : Int32) (u' v' : Mem), F_X6_came u x1 x2 = some (r, u') ∧ F_X7_came v x1 x2 = some (r, v') ∧ Rel u' v'
def ST_14 (Rel : Mem → Mem → Prop) : Prop := ∀ (u v : Mem) (x1 : Int32), Rel u v → ∃ (r : Int32) (u' v' : Mem), F_X6_ring u x1 = some (r, u') ∧ F_X7_ring v x1 = some (r, v') ∧ Rel u' v'
def ST_15 (Rel : Mem → Mem → Prop) : Prop := ∀ (u v : Mem) (x1 : Int32), Rel u v → ∃ (r : Int32) (u' v' : Mem), F_X6_most u x1 = some (r, u') ∧ F_X7_most v x1 = some (r, v') ∧ Rel u' v'
def ST_16 (Rel : Mem → Mem → Prop) : Prop := ∀ (u v : Mem) (x1 : Int32), Rel u v → ∃ (r : Int32) (u' v' : Mem), F_X6_best u x1 = some (r, u') ∧ F_X7_best v x1 = some (r, v') ∧ Rel u' v'
def ST_17 (Rel : Mem → Mem → Prop) : Prop := ∀ (u v : Mem) (x1 : Int32), Rel u v → ∃ (r : Int32) (u' v' : Mem), F_X6_fewest u x1 = some (r, u') ∧ F_X7_fewest v x1 = some (r, v') ∧ Rel u' v'
def ST_18 (Rel : Mem → Mem → Prop) : Prop := ∀ (u v : Mem) (x1 : Int32), Rel u v → ∃ (r : Int32) (u' v' : Mem), F_X6_alone u x1 = some (r, u') ∧ F_X7_alone v x1 = some (r, v') ∧ Rel u' v'
def ST_19 (Rel : Mem → Mem → Prop) : Prop := ∀ (u v : Mem) (x1 : Int32), Rel u v → ∃ (r : Int32) (u' v' : Mem), F_X6_orders u x1 = some (r, u') ∧ F_X7_orders v x1 = some (r, v') ∧ Rel u' v'
def ST_20 (Rel : Mem → Mem → Prop) : Prop := ∀ (u v : Mem) (x1 : Int32) (x2 : Int32), Rel u v → ∃ (r : Int32) (u' v' : Mem), F_X6_ith u x1 x2 = some (r, u') ∧ F_X7_ith v x1 x2 = some (r, v') ∧ Rel u' v'
def ST_21 (Rel : Mem → Mem → Prop) : Prop := ∀ (u v : Mem) (x1 : Int32), Rel u v → ∃ (r : Int32) (u' v' : Mem), F_X6_falseDate u x1 = some (r, u') ∧ F_X7_falseDate v x1 = some (r, v') ∧ Rel u' v'
def ST_22 (Rel : Mem → Mem → Prop) : Prop := ∀ (u v : Mem) (x1 : Int32) (x2 : Int32), Rel u v → ∃ (r : Int64) (u' v' : Mem), F_X6_had u x1 x2 = some (r, u') ∧ F_X7_had v x1 x2 = some (r, v') ∧ Rel u' v'
def ST_23 (Rel : Mem → Mem → Prop) : Prop := ∀ (u v : Mem) (x1 : Int32) (x2 : Int32), Rel u v → ∃ (r : Int64) (u' v' : Mem), F_X6_hadNot u x1 x2 = some (r, u') ∧ F_X7_hadNot v x1 x2 = some (r, v') ∧ Rel u' v'
def ST_24 (Rel : Mem → Mem → Prop) : Prop := ∀ (u v : Mem) (x1 : Int32), Rel u v → ∃ (r : Int32) (u' v' : Mem), F_X6_castOf u x1 = some (r, u') ∧ F_X7_castOf v x1 = some (r, v') ∧ Rel u' v'
def ST_25 (Rel : Mem → Mem → Prop) : Prop := ∀ (u v : Mem) (x1 : Int32), Rel u v → ∃ (r : Int32) (u' v' : Mem), F_X6_deep u x1 = some (r, u') ∧ F_X7_deep v x1 = some (r, v') ∧ Rel u' v'
def ST_26 (Rel : Mem → Mem → Prop) : Prop := ∀ (u v : Mem) , Rel u v → ∃ (r : Int32) (u' v' : Mem), F_X6_tell u  = some (r, u') ∧ F_X7_tell v  = some (r, v') ∧ Rel u' v'
def ST_27 (Rel : Mem → Mem → Prop) : Prop := ∀ (u v : Mem) (x1 : Int32), Rel u v → ∃ (r : Int32) (u' v' : Mem), F_X6_kind u x1 = some (r, u') ∧ F_X7_kind v x1 = some (r, v') ∧ Rel u' v'
def ST_28 (Rel : Mem → Mem → Prop) : Prop := ∀ (u v : Mem) , Rel u v → ∃ (r : Int32) (u' v' : Mem), F_X6_pairs u  = some (r, u') ∧ F_X7_pairs v  = some (r, v') ∧ Rel u' v'
def ST_29 (Rel : Mem → Mem → Prop) : Prop := ∀ (u v : Mem) (x1 : Int32) (x2 : Int32), Rel u v → ∃ (r : Int32) (u' v' : Mem), F_X6_feed u x1 x2 = some (r, u') ∧ F_X7_feed v x1 x2 = some (r, v') ∧ Rel u' v'
def ST_30 (Rel : Mem → Mem → Prop) : Prop := ∀ (u v : Mem) , Rel u v → ∃ (r : Int32) (u' v' : Mem), F_X6_wipe u  = some (r, u') ∧ F_X7_wipe v  = some (r, v') ∧ Rel u' v'
def ST_31 (Rel : Mem → Mem → Prop) : Prop := ∀ (u v : Mem) , Rel u v → ∃ (r : Int32) (u' v' : Mem), F_X6_text u  = some (r, u') ∧ F_X7_text v  = some (r, v') ∧ Rel u' v'
def ST_32 (Rel : Mem → Mem → Prop) : Prop := ∀ (u v : Mem) (x1 : Int32) (x2 : Int32) (x3 : Int32), Rel u v → ∃ (r : Int32) (u' v' : Mem), F_X6_sheet u x1 x2 x3 = some (r, u') ∧ F_X7_sheet v x1 x2 x3 = some (r, v') ∧ Rel u' v'
def ST_33 (Rel : Mem → Mem → Prop) : Prop := ∀ (u v : Mem) (x1 : Int32) (x2 : Int32) (x3 : Int64), Rel u v → ∃ (r : Int64) (u' v' : Mem), F_X6_write u x1 x2 x3 = some (r, u') ∧ F_X7_write v x1 x2 x3 = some (r, v') ∧ Rel u' v'
def ST_34 (Rel : Mem → Mem → Prop) : Prop := ∀ (u v : Mem) (x1 : Int32) (x2 : Int32) (x3 : Int32) (x4 : Int32) (x5 : Int32), Rel u v → ∃ (r : Int32) (u' v' : Mem), F_X6_copy u x1 x2 x3 x4 x5 = some (r, u') ∧ F_X7_copy v x1 x2 x3 x4 x5 = some (r, v') ∧ Rel u' v'
def ST_35 (Rel : Mem → Mem → Prop) : Prop := ∀ (u v : Mem) (x1 : Int32), Rel u v → ∃ (r : Int32) (u' v' : Mem), F_X6_dates u x1 = some (r, u') ∧ F_X7_dates v x1 = some (r, v') ∧ Rel u' v'
def ST_36 (Rel : Mem → Mem → Prop) : Prop := ∀ (u v : Mem) (x1 : Int32), Rel u v → ∃ (r : Int32) (u' v' : Mem), F_X6_show u x1 = some (r, u') ∧ F_X7_show v x1 = some (r, v') ∧ Rel u' v'
def ST_37 (Rel : Mem → Mem → Prop) : Prop := ∀ (u v : Mem) (x1 : Int32), Rel u v → ∃ (r : Int32) (u' v' : Mem), F_X6_read u x1 = some (r, u') ∧ F_X7_read v x1 = some (r, v') ∧ Rel u' v'
def ST_38 (Rel : Mem → Mem → Prop) : Prop := ∀ (u v : Mem) , Rel u v → ∃ (r : Int32) (u' v' : Mem), F_X6_image u  = some (r, u') ∧ F_X7_image v  = some (r, v') ∧ Rel u' v'
def ST_39 (Rel : Mem → Mem → Prop) : Prop := ∀ (u v : Mem) , Rel u v → ∃ (r : Int32) (u' v' : Mem), F_X6_undo u  = some (r, u') ∧ F_X7_undo v  = some (r, v') ∧ Rel u' v'
def ST_40 (Rel : Mem → Mem → Prop) : Prop := ∀ (u v : Mem) , Rel u v → ∃ (r : Int32) (u' v' : Mem), F_X6_tear u  = some (r, u') ∧ F_X7_tear v  = some (r, v') ∧ Rel u' v'
def ST_41 (Rel : Mem → Mem → Prop) : Prop := ∀ (u v : Mem) (x1 : Int32), Rel u v → ∃ (r : Int32) (u' v' : Mem), F_X6_count u x1 = some (r, u') ∧ F_X7_count v x1 = some (r, v') ∧ Rel u' v'
def ST_42 (Rel : Mem → Mem → Prop) : Prop := ∀ (u v : Mem) (x1 : Int32), Rel u v → ∃ (r : Int32) (u' v' : Mem), F_X6_status u x1 = some (r, u') ∧ F_X7_status v x1 = some (r, v') ∧ Rel u' v'
def STA (Rel : Mem → Mem → Prop) : Prop := ST_0 Rel ∧ ST_1 Rel ∧ ST_2 Rel ∧ ST_3 Rel ∧ ST_4 Rel ∧ ST_5 Rel ∧ ST_6 Rel ∧ ST_7 Rel ∧ ST_8 Rel ∧ ST_9 Rel ∧ ST_10 Rel ∧ ST_11 Rel ∧ ST_12 Rel ∧ ST_13 Rel ∧ ST_14 Rel ∧ ST_15 Rel ∧ ST_16 Rel ∧ ST_17 Rel ∧ ST_18 Rel ∧ ST_19 Rel ∧ ST_20 Rel ∧ ST_21 Rel ∧ ST_22 Rel ∧ ST_23 Rel ∧ ST_24 Rel ∧ ST_25 Rel ∧ ST_26 Rel ∧ ST_27 Rel ∧ ST_28 Rel ∧ ST_29 Rel ∧ ST_30 Rel ∧ ST_31 Rel ∧ ST_32 Rel ∧ ST_33 Rel ∧ ST_34 Rel ∧ ST_35 Rel ∧ ST_36 Rel ∧ ST_37 Rel ∧ ST_38 Rel ∧ ST_39 Rel ∧ ST_40 Rel ∧ ST_41 Rel ∧ ST_42 Rel
theorem k_L_15 : CV RL 15 yX6_print cX6_print 4 (some .int) 2 := ⟨⟨q284, q285, q286, q64, q287⟩, by decide, by decide, by decide +kernel⟩
theorem k_L_19 : CV RL 19 yX7_print cX7_print 4 (some .int) 2 := ⟨⟨q956, q957, q958, q71, q959⟩, by decide, by decide, by decide +kernel⟩
theorem k_L_20 : CV RL 20 yX6_of cX6_of 4 (some .int) 2 := ⟨⟨q311, q312, q313, q64, q314⟩, by decide, by decide, by decide +kernel⟩
theorem k_L_24 : CV RL 24 yX7_of cX7_of 3 (some .int) 2 := ⟨⟨q981, q982, q983, q71, q984⟩, by decide, by decide, by decide +kernel⟩
theorem k_L_25 : CV RL 25 yX6_marks cX6_marks 4 (some .long) 2 := ⟨⟨q341, q342, q343, q64, q344⟩, by decide, by decide, by decide +kernel⟩
theorem k_L_29 : CV RL 29 yX7_marks cX7_marks 3 (some .long) 2 := ⟨⟨q1012, q1013, q1014, q71, q1015⟩, by decide, by decide, by decide +kernel⟩
theorem k_L_30 : CV RL 30 yX6_set cX6_set 6 (some .int) 3 := ⟨⟨q346, q347, q348, q64, q349⟩, by decide, by decide, by decide +kernel⟩
theorem k_L_34 : CV RL 34 yX7_set cX7_set 5 (some .int) 3 := ⟨⟨q1016, q1017, q1018, q71, q1019⟩, by decide, by decide, by decide +kernel⟩
theorem k_L_35 : CV RL 35 yX6_scratch cX6_scratch 9 (some .int) 3 := ⟨⟨q356, q357, q358, q64, q359⟩, by decide, by decide, by decide +kernel⟩
theorem k_L_39 : CV RL 39 yX7_scratch cX7_scratch 6 (some .int) 3 := ⟨⟨q1023, q1024, q1025, q71, q1026⟩, by decide, by decide, by decide +kernel⟩
theorem k_L_40 : CV RL 40 yX6_look cX6_look 4 (some .int) 1 := ⟨⟨q364, q365, q366, q64, q367⟩, by decide, by decide, by decide +kernel⟩
theorem k_L_44 : CV RL 44 yX7_look cX7_look 3 (some .int) 1 := ⟨⟨q1027, q1028, q1029, q71, q1030⟩, by decide, by decide, by decide +kernel⟩
theorem k_L_45 : CV RL 45 yX6_turn cX6_turn 5 (some .int) 2 := ⟨⟨q368, q369, q370, q64, q371⟩, by decide, by decide, by decide +kernel⟩
theorem k_L_48 : CV RL 48 yX7_turn cX7_turn 4 (some .int) 2 := ⟨⟨q1031, q1032, q1033, q71, q1034⟩, by decide, by decide, by decide +kernel⟩
theorem k_L_49 : CV RL 49 yX6_as cX6_as 4 (some .int) 2 := ⟨⟨q372, q373, q374, q64, q375⟩, by decide, by decide, by decide +kernel⟩
theorem k_L_52 : CV RL 52 yX7_as cX7_as 3 (some .int) 2 := ⟨⟨q1035, q1036, q1037, q71, q1038⟩, by decide, by decide, by decide +kernel⟩
theorem k_L_53 : CV RL 53 yX6_slack cX6_slack 3 (some .int) 1 := ⟨⟨q382, q383, q384, q64, q385⟩, by decide, by decide, by decide +kernel⟩
theorem k_L_56 : CV RL 56 yX7_slack cX7_slack 3 (some .int) 1 := ⟨⟨q1043, q1044, q1045, q71, q1046⟩, by decide, by decide, by decide +kernel⟩
theorem k_L_57 : CV RL 57 yX6_ahead cX6_ahead 3 (some .int) 2 := ⟨⟨q389, q390, q391, q64, q392⟩, by decide, by decide, by decide +kernel⟩
theorem k_L_60 : CV RL 60 yX7_ahead cX7_ahead 3 (some .int) 2 := ⟨⟨q1047, q1048, q1049, q71, q1050⟩, by decide, by decide, by decide +kernel⟩
theorem k_L_61 : CV RL 61 yX6_order cX6_order 5 (some .int) 2 := ⟨⟨q422, q423, q424, q64, q425⟩, by decide, by decide, by decide +kernel⟩
theorem k_L_64 : CV RL 64 yX7_order cX7_order 3 (some .int) 2 := ⟨⟨q1067, q1068, q1069, q71, q1070⟩, by decide, by decide, by decide +kernel⟩
theorem k_L_65 : CV RL 65 yX6_alike cX6_alike 5 (some .int) 2 := ⟨⟨q426, q427, q428, q64, q429⟩, by decide, by decide, by decide +kernel⟩
theorem k_L_68 : CV RL 68 yX7_alike cX7_alike 5 (some .int) 2 := ⟨⟨q1071, q1072, q1073, q71, q1074⟩, by decide, by decide, by decide +kernel⟩
theorem k_L_69 : CV RL 69 yX6_slackFor cX6_slackFor 4 (some .int) 2 := ⟨⟨q431, q432, q433, q64, q434⟩, by decide, by decide, by decide +kernel⟩
theorem k_L_72 : CV RL 72 yX7_slackFor cX7_slackFor 5 (some .int) 2 := ⟨⟨q1075, q1076, q1077, q71, q1078⟩, by decide, by decide, by decide +kernel⟩
theorem k_L_73 : CV RL 73 yX6_came cX6_came 3 (some .int) 2 := ⟨⟨q438, q439, q440, q64, q441⟩, by decide, by decide, by decide +kernel⟩
theorem k_L_76 : CV RL 76 yX7_came cX7_came 3 (some .int) 2 := ⟨⟨q1080, q1081, q1082, q71, q1083⟩, by decide, by decide, by decide +kernel⟩
theorem k_L_77 : CV RL 77 yX6_ring cX6_ring 2 (some .int) 1 := ⟨⟨q443, q444, q445, q64, q446⟩, by decide, by decide, by decide +kernel⟩
theorem k_L_80 : CV RL 80 yX7_ring cX7_ring 2 (some .int) 1 := ⟨⟨q1085, q1086, q1087, q71, q1088⟩, by decide, by decide, by decide +kernel⟩
theorem k_L_81 : CV RL 81 yX6_most cX6_most 2 (some .int) 1 := ⟨⟨q478, q479, q480, q64, q481⟩, by decide, by decide, by decide +kernel⟩
theorem k_L_84 : CV RL 84 yX7_most cX7_most 2 (some .int) 1 := ⟨⟨q1119, q1120, q1121, q71, q1122⟩, by decide, by decide, by decide +kernel⟩
theorem k_L_85 : CV RL 85 yX6_best cX6_best 2 (some .int) 1 := ⟨⟨q497, q498, q499, q64, q500⟩, by decide, by decide, by decide +kernel⟩
theorem k_L_88 : CV RL 88 yX7_best cX7_best 2 (some .int) 1 := ⟨⟨q1130, q1131, q1132, q71, q1133⟩, by decide, by decide, by decide +kernel⟩
theorem k_L_89 : CV RL 89 yX6_fewest cX6_fewest 2 (some .int) 1 := ⟨⟨q501, q502, q503, q64, q504⟩, by decide, by decide, by decide +kernel⟩
theorem k_L_92 : CV RL 92 yX7_fewest cX7_fewest 2 (some .int) 1 := ⟨⟨q1134, q1135, q1136, q71, q1137⟩, by decide, by decide, by decide +kernel⟩
theorem k_L_93 : CV RL 93 yX6_alone cX6_alone 2 (some .int) 1 := ⟨⟨q513, q514, q515, q64, q516⟩, by decide, by decide, by decide +kernel⟩
theorem k_L_96 : CV RL 96 yX7_alone cX7_alone 6 (some .int) 1 := ⟨⟨q1142, q1143, q1144, q71, q1145⟩, by decide, by decide, by decide +kernel⟩
theorem k_L_97 : CV RL 97 yX6_orders cX6_orders 2 (some .int) 1 := ⟨⟨q521, q522, q523, q64, q524⟩, by decide, by decide, by decide +kernel⟩
theorem k_L_100 : CV RL 100 yX7_orders cX7_orders 2 (some .int) 1 := ⟨⟨q1146, q1147, q1148, q71, q1149⟩, by decide, by decide, by decide +kernel⟩
theorem k_L_101 : CV RL 101 yX6_ith cX6_ith 3 (some .int) 2 := ⟨⟨q542, q543, q544, q64, q545⟩, by decide, by decide, by decide +kernel⟩
theorem k_L_104 : CV RL 104 yX7_ith cX7_ith 6 (some .int) 2 := ⟨⟨q1159, q1160, q1161, q71, q1162⟩, by decide, by decide, by decide +kernel⟩
theorem k_L_105 : CV RL 105 yX6_falseDate cX6_falseDate 2 (some .int) 1 := ⟨⟨q558, q559, q560, q64, q561⟩, by decide, by decide, by decide +kernel⟩
theorem k_L_108 : CV RL 108 yX7_falseDate cX7_falseDate 3 (some .int) 1 := ⟨⟨q1163, q1164, q1165, q71, q1166⟩, by decide, by decide, by decide +kernel⟩
theorem k_L_109 : CV RL 109 yX6_had cX6_had 3 (some .long) 2 := ⟨⟨q575, q576, q577, q64, q578⟩, by decide, by decide, by decide +kernel⟩
theorem k_L_112 : CV RL 112 yX7_had cX7_had 7 (some .long) 2 := ⟨⟨q1171, q1172, q1173, q71, q1174⟩, by decide, by decide, by decide +kernel⟩
theorem k_L_113 : CV RL 113 yX6_hadNot cX6_hadNot 3 (some .long) 2 := ⟨⟨q584, q585, q586, q64, q587⟩, by decide, by decide, by decide +kernel⟩
theorem k_L_116 : CV RL 116 yX7_hadNot cX7_hadNot 8 (some .long) 2 := ⟨⟨q1175, q1176, q1177, q71, q1178⟩, by decide, by decide, by decide +kernel⟩
theorem k_L_117 : CV RL 117 yX6_castOf cX6_castOf 2 (some .int) 1 := ⟨⟨q593, q594, q595, q64, q596⟩, by decide, by decide, by decide +kernel⟩
theorem k_L_120 : CV RL 120 yX7_castOf cX7_castOf 3 (some .int) 1 := ⟨⟨q1179, q1180, q1181, q71, q1182⟩, by decide, by decide, by decide +kernel⟩
theorem k_L_121 : CV RL 121 yX6_deep cX6_deep 4 (some .int) 1 := ⟨⟨q606, q607, q608, q64, q609⟩, by decide, by decide, by decide +kernel⟩
theorem k_L_124 : CV RL 124 yX7_deep cX7_deep 6 (some .int) 1 := ⟨⟨q1195, q1196, q1197, q71, q1198⟩, by decide, by decide, by decide +kernel⟩
theorem k_L_125 : CV RL 125 yX6_tell cX6_tell 1 (some .int) 0 := ⟨⟨q610, q611, q612, q64, q613⟩, by decide, by decide, by decide +kernel⟩
theorem k_L_129 : CV RL 129 yX7_tell cX7_tell 7 (some .int) 0 := ⟨⟨q1199, q1200, q1201, q71, q1202⟩, by decide, by decide, by decide +kernel⟩
theorem k_L_130 : CV RL 130 yX6_kind cX6_kind 2 (some .int) 1 := ⟨⟨q624, q625, q626, q64, q627⟩, by decide, by decide, by decide +kernel⟩
theorem k_L_133 : CV RL 133 yX7_kind cX7_kind 7 (some .int) 1 := ⟨⟨q1203, q1204, q1205, q71, q1206⟩, by decide, by decide, by decide +kernel⟩
theorem k_L_134 : CV RL 134 yX6_pairs cX6_pairs 1 (some .int) 0 := ⟨⟨q632, q633, q634, q64, q635⟩, by decide, by decide, by decide +kernel⟩
theorem k_L_137 : CV RL 137 yX7_pairs cX7_pairs 3 (some .int) 0 := ⟨⟨q1211, q1212, q1213, q71, q1214⟩, by decide, by decide, by decide +kernel⟩
theorem k_L_138 : CV RL 138 yX6_feed cX6_feed 4 (some .int) 2 := ⟨⟨q640, q641, q642, q64, q643⟩, by decide, by decide, by decide +kernel⟩
theorem k_L_141 : CV RL 141 yX7_feed cX7_feed 4 (some .int) 2 := ⟨⟨q1215, q1216, q1217, q71, q1218⟩, by decide, by decide, by decide +kernel⟩
theorem k_L_142 : CV RL 142 yX6_wipe cX6_wipe 2 (some .int) 0 := ⟨⟨q648, q649, q650, q64, q651⟩, by decide, by decide, by decide +kernel⟩
theorem k_L_145 : CV RL 145 yX7_wipe cX7_wipe 2 (some .int) 0 := ⟨⟨q1219, q1220, q1221, q71, q1222⟩, by decide, by decide, by decide +kernel⟩
theorem k_L_146 : CV RL 146 yX6_text cX6_text 2 (some .int) 0 := ⟨⟨q652, q653, q654, q64, q655⟩, by decide, by decide, by decide +kernel⟩
theorem k_L_149 : CV RL 149 yX7_text cX7_text 3 (some .int) 0 := ⟨⟨q1223, q1224, q1225, q71, q1226⟩, by decide, by decide, by decide +kernel⟩
theorem k_L_150 : CV RL 150 yX6_sheet cX6_sheet 5 (some .int) 3 := ⟨⟨q782, q783, q784, q64, q785⟩, by decide, by decide, by decide +kernel⟩
theorem k_L_153 : CV RL 153 yX7_sheet cX7_sheet 5 (some .int) 3 := ⟨⟨q1290, q1291, q1292, q71, q1293⟩, by decide, by decide, by decide +kernel⟩
theorem k_L_154 : CV RL 154 yX6_write cX6_write 8 (some .long) 3 := ⟨⟨q796, q797, q798, q64, q799⟩, by decide, by decide, by decide +kernel⟩
theorem k_L_158 : CV RL 158 yX7_write cX7_write 7 (some .long) 3 := ⟨⟨q1297, q1298, q1299, q71, q1300⟩, by decide, by decide, by decide +kernel⟩
theorem k_L_159 : CV RL 159 yX6_copy cX6_copy 8 (some .int) 5 := ⟨⟨q813, q814, q815, q64, q816⟩, by decide, by decide, by decide +kernel⟩
theorem k_L_163 : CV RL 163 yX7_copy cX7_copy 7 (some .int) 5 := ⟨⟨q1305, q1306, q1307, q71, q1308⟩, by decide, by decide, by decide +kernel⟩
theorem k_L_164 : CV RL 164 yX6_dates cX6_dates 7 (some .int) 1 := ⟨⟨q824, q825, q826, q64, q827⟩, by decide, by decide, by decide +kernel⟩
theorem k_L_167 : CV RL 167 yX7_dates cX7_dates 6 (some .int) 1 := ⟨⟨q1313, q1314, q1315, q71, q1316⟩, by decide, by decide, by decide +kernel⟩
theorem k_L_168 : CV RL 168 yX6_show cX6_show 5 (some .int) 1 := ⟨⟨q829, q830, q831, q64, q832⟩, by decide, by decide, by decide +kernel⟩
theorem k_L_171 : CV RL 171 yX7_show cX7_show 3 (some .int) 1 := ⟨⟨q1318, q1319, q1320, q71, q1321⟩, by decide, by decide, by decide +kernel⟩
theorem k_L_172 : CV RL 172 yX6_read cX6_read 8 (some .int) 1 := ⟨⟨q834, q835, q836, q64, q837⟩, by decide, by decide, by decide +kernel⟩
theorem k_L_175 : CV RL 175 yX7_read cX7_read 10 (some .int) 1 := ⟨⟨q1322, q1323, q1324, q71, q1325⟩, by decide, by decide, by decide +kernel⟩
theorem k_L_176 : CV RL 176 yX6_image cX6_image 1 (some .int) 0 := ⟨⟨q843, q844, q845, q64, q846⟩, by decide, by decide, by decide +kernel⟩
theorem k_L_179 : CV RL 179 yX7_image cX7_image 1 (some .int) 0 := ⟨⟨q1326, q1327, q1328, q71, q1329⟩, by decide, by decide, by decide +kernel⟩
theorem k_L_180 : CV RL 180 yX6_undo cX6_undo 1 (some .int) 0 := ⟨⟨q848, q849, q850, q64, q851⟩, by decide, by decide, by decide +kernel⟩
theorem k_L_183 : CV RL 183 yX7_undo cX7_undo 1 (some .int) 0 := ⟨⟨q1330, q1331, q1332, q71, q1333⟩, by decide, by decide, by decide +kernel⟩
theorem k_L_184 : CV RL 184 yX6_tear cX6_tear 2 (some .int) 0 := ⟨⟨q852, q853, q854, q64, q855⟩, by decide, by decide, by decide +kernel⟩
theorem k_L_187 : CV RL 187 yX7_tear cX7_tear 2 (some .int) 0 := ⟨⟨q1334, q1335, q1336, q71, q1337⟩, by decide, by decide, by decide +kernel⟩
theorem k_L_188 : CV RL 188 yX6_count cX6_count 2 (some .int) 1 := ⟨⟨q856, q857, q858, q64, q859⟩, by decide, by decide, by decide +kernel⟩
theorem k_L_191 : CV RL 191 yX7_count cX7_count 4 (some .int) 1 := ⟨⟨q1338, q1339, q1340, q71, q1341⟩, by decide, by decide, by decide +kernel⟩
theorem k_L_192 : CV RL 192 yX6_status cX6_status 4 (some .int) 1 := ⟨⟨q869, q870, q871, q64, q872⟩, by decide, by decide, by decide +kernel⟩
theorem k_L_195 : CV RL 195 yX7_status cX7_status 4 (some .int) 1 := ⟨⟨q1342, q1343, q1344, q71, q1345⟩, by decide, by decide, by decide +kernel⟩

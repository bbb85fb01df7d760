/-- the words that every method may use: all of the tables' that stay true -/
def tk_W : List Cond := lw_tbl.filter goodWord
theorem tk_mem {w : Cond} (i : Nat) (h : lw_tbl[i]? = some w) (g : goodWord w = true) : w ∈ tk_W := List.mem_filter.mpr ⟨List.mem_of_getElem? h, g⟩
theorem tk_W_good : ∀ w ∈ tk_W, goodWord w = true := fun _ h => (List.mem_filter.mp h).2
theorem tk_W_in : GoodIn tk_W tk_W := fun w h => ⟨h, good_of_word (tk_W_good w h)⟩
theorem tk_gd {w : Cond} (h : w ∈ tk_W) : w ∈ tk_W ∧ ((w.onTables && w.keeps) = true ∨ ∃ ty, w = .arrayClass ty) := tk_W_in w h
theorem tk_c1 {ws : List Cond} {w : Cond} (h : w ∈ tk_W) (t : GoodIn tk_W ws) : GoodIn tk_W (w :: ws) := fun x hx => (List.mem_cons.mp hx).elim (fun e => by rw [e]; exact tk_gd h) (t x)
theorem tk_gV {own C : String} {idx : Nat} {y : MethodName} {cy : Cond} (h1 : Cond.methodLink own idx y ∈ tk_W) (h2 : Cond.instanceMethod y ∈ tk_W) (h3 : Cond.selects C y y ∈ tk_W) (h4 : Cond.initialized C ∈ tk_W) (h5 : cy ∈ tk_W) : GoodIn tk_W (wsV own idx C y (cy :: tk_W)) := tk_c1 h1 (tk_c1 h2 (tk_c1 h3 (tk_c1 h4 (tk_c1 h5 tk_W_in))))
theorem tk_gS {own : String} {idx : Nat} {y : MethodName} {cy : Cond} (h1 : Cond.methodLink own idx y ∈ tk_W) (h2 : Cond.static y ∈ tk_W) (h4 : Cond.initialized y.cls ∈ tk_W) (h5 : cy ∈ tk_W) : GoodIn tk_W (va_wsS own idx y (cy :: tk_W)) := tk_c1 h1 (tk_c1 h2 (tk_c1 h4 (tk_c1 h5 tk_W_in)))
theorem tk_g1 {cy : Cond} (h5 : cy ∈ tk_W) : GoodIn tk_W (cy :: tk_W) := tk_c1 h5 tk_W_in
theorem wfX4_11 : Cond.fieldLink RX4 11 "TongueSwap" "learners" "[LTongueSwap$Learner;" ∈ tk_W := tk_mem 157 (by decide +kernel) rfl
theorem wfX4_18 : Cond.fieldLink RX4 18 "TongueSwap" "ties" "LTongueSwap$Ties;" ∈ tk_W := tk_mem 158 (by decide +kernel) rfl
theorem wfX4_25 : Cond.fieldLink RX4 25 "TongueSwap" "planner" "LTongueSwap$Planner;" ∈ tk_W := tk_mem 159 (by decide +kernel) rfl
theorem wfX4_32 : Cond.fieldLink RX4 32 "TongueSwap" "tape" "LTongueSwap$Tape;" ∈ tk_W := tk_mem 160 (by decide +kernel) rfl
theorem wfX4_36 : Cond.fieldLink RX4 36 "TongueSwap" "taken" "[I" ∈ tk_W := tk_mem 161 (by decide +kernel) rfl
theorem wfX4_40 : Cond.fieldLink RX4 40 "TongueSwap" "learnerCount" "I" ∈ tk_W := tk_mem 163 (by decide +kernel) rfl
theorem wfX4_158 : Cond.fieldLink RX4 158 "TongueSwap" "today" "I" ∈ tk_W := tk_mem 164 (by decide +kernel) rfl
theorem wfX4_161 : Cond.fieldLink RX4 161 "TongueSwap" "weeksSoFar" "I" ∈ tk_W := tk_mem 165 (by decide +kernel) rfl
theorem wfX4_169 : Cond.fieldLink RX4 169 "TongueSwap" "servedSoFar" "I" ∈ tk_W := tk_mem 166 (by decide +kernel) rfl
theorem wfX4_172 : Cond.fieldLink RX4 172 "TongueSwap" "takenCount" "I" ∈ tk_W := tk_mem 162 (by decide +kernel) rfl
theorem wfX0_9 : Cond.fieldLink RX0 9 "TongueSwap$Learner" "claims" "[I" ∈ tk_W := tk_mem 198 (by decide +kernel) rfl
theorem wfX0_15 : Cond.fieldLink RX0 15 "TongueSwap$Learner" "lows" "[I" ∈ tk_W := tk_mem 200 (by decide +kernel) rfl
theorem wfX0_18 : Cond.fieldLink RX0 18 "TongueSwap$Learner" "highs" "[I" ∈ tk_W := tk_mem 202 (by decide +kernel) rfl
theorem wfX0_21 : Cond.fieldLink RX0 21 "TongueSwap$Learner" "soundTests" "[I" ∈ tk_W := tk_mem 204 (by decide +kernel) rfl
theorem wfX0_24 : Cond.fieldLink RX0 24 "TongueSwap$Learner" "oddTests" "[I" ∈ tk_W := tk_mem 206 (by decide +kernel) rfl
theorem wfX0_27 : Cond.fieldLink RX0 27 "TongueSwap$Learner" "wants" "[I" ∈ tk_W := tk_mem 208 (by decide +kernel) rfl
theorem wfX0_30 : Cond.fieldLink RX0 30 "TongueSwap$Learner" "boxes" "[I" ∈ tk_W := tk_mem 209 (by decide +kernel) rfl
theorem wfX0_33 : Cond.fieldLink RX0 33 "TongueSwap$Learner" "dueDays" "[I" ∈ tk_W := tk_mem 211 (by decide +kernel) rfl
theorem wfX0_36 : Cond.fieldLink RX0 36 "TongueSwap$Learner" "hours" "I" ∈ tk_W := tk_mem 213 (by decide +kernel) rfl
theorem wfX0_40 : Cond.fieldLink RX0 40 "TongueSwap$Learner" "wantCount" "I" ∈ tk_W := tk_mem 215 (by decide +kernel) rfl
theorem wfX0_43 : Cond.fieldLink RX0 43 "TongueSwap$Learner" "barred" "I" ∈ tk_W := tk_mem 221 (by decide +kernel) rfl
theorem wfX0_59 : Cond.fieldLink RX0 59 "TongueSwap$Learner" "waited" "I" ∈ tk_W := tk_mem 219 (by decide +kernel) rfl
theorem wfX0_62 : Cond.fieldLink RX0 62 "TongueSwap$Learner" "wordCount" "I" ∈ tk_W := tk_mem 217 (by decide +kernel) rfl
theorem wfX1_11 : Cond.fieldLink RX1 11 "TongueSwap$Planner" "members" "[I" ∈ tk_W := tk_mem 87 (by decide +kernel) rfl
theorem wfX1_15 : Cond.fieldLink RX1 15 "TongueSwap$Planner" "seconds" "[I" ∈ tk_W := tk_mem 89 (by decide +kernel) rfl
theorem wfX1_18 : Cond.fieldLink RX1 18 "TongueSwap$Planner" "thirds" "[I" ∈ tk_W := tk_mem 91 (by decide +kernel) rfl
theorem wfX1_21 : Cond.fieldLink RX1 21 "TongueSwap$Planner" "worths" "[I" ∈ tk_W := tk_mem 93 (by decide +kernel) rfl
theorem wfX1_24 : Cond.fieldLink RX1 24 "TongueSwap$Planner" "starts" "[I" ∈ tk_W := tk_mem 94 (by decide +kernel) rfl
theorem wfX1_27 : Cond.fieldLink RX1 27 "TongueSwap$Planner" "weights" "[I" ∈ tk_W := tk_mem 95 (by decide +kernel) rfl
theorem wfX1_30 : Cond.fieldLink RX1 30 "TongueSwap$Planner" "memo" "[J" ∈ tk_W := tk_mem 96 (by decide +kernel) rfl
theorem wfX1_43 : Cond.fieldLink RX1 43 "TongueSwap$Planner" "size" "I" ∈ tk_W := tk_mem 99 (by decide +kernel) rfl
theorem wfX1_47 : Cond.fieldLink RX1 47 "TongueSwap$Planner" "ringCount" "I" ∈ tk_W := tk_mem 98 (by decide +kernel) rfl
theorem wfX1_50 : Cond.fieldLink RX1 50 "TongueSwap$Planner" "weekNumber" "J" ∈ tk_W := tk_mem 97 (by decide +kernel) rfl
theorem wfX2_9 : Cond.fieldLink RX2 9 "TongueSwap$Tape" "bytes" "[I" ∈ tk_W := tk_mem 128 (by decide +kernel) rfl
theorem wfX2_13 : Cond.fieldLink RX2 13 "TongueSwap$Tape" "costs" "[I" ∈ tk_W := tk_mem 129 (by decide +kernel) rfl
theorem wfX2_16 : Cond.fieldLink RX2 16 "TongueSwap$Tape" "marksMade" "[I" ∈ tk_W := tk_mem 130 (by decide +kernel) rfl
theorem wfX2_19 : Cond.fieldLink RX2 19 "TongueSwap$Tape" "kindCounts" "[I" ∈ tk_W := tk_mem 132 (by decide +kernel) rfl
theorem wfX2_22 : Cond.fieldLink RX2 22 "TongueSwap$Tape" "length" "I" ∈ tk_W := tk_mem 134 (by decide +kernel) rfl
theorem wfX2_26 : Cond.fieldLink RX2 26 "TongueSwap$Tape" "saidLength" "I" ∈ tk_W := tk_mem 138 (by decide +kernel) rfl
theorem wfX2_29 : Cond.fieldLink RX2 29 "TongueSwap$Tape" "meantLength" "I" ∈ tk_W := tk_mem 139 (by decide +kernel) rfl
theorem wfX2_52 : Cond.fieldLink RX2 52 "TongueSwap$Tape" "markCount" "I" ∈ tk_W := tk_mem 136 (by decide +kernel) rfl
theorem wfX2_58 : Cond.fieldLink RX2 58 "TongueSwap$Tape" "SAID_STEPS" "[I" ∈ tk_W := tk_mem 694 (by decide +kernel) rfl
theorem wfX2_61 : Cond.fieldLink RX2 61 "TongueSwap$Tape" "MEANT_STEPS" "[I" ∈ tk_W := tk_mem 696 (by decide +kernel) rfl
theorem wfX2_68 : Cond.fieldLink RX2 68 "TongueSwap$Tape" "COSTS" "[I" ∈ tk_W := tk_mem 702 (by decide +kernel) rfl
theorem wfX3_9 : Cond.fieldLink RX3 9 "TongueSwap$Ties" "receivers" "[I" ∈ tk_W := tk_mem 73 (by decide +kernel) rfl
theorem wfX3_15 : Cond.fieldLink RX3 15 "TongueSwap$Ties" "sharedHours" "[I" ∈ tk_W := tk_mem 74 (by decide +kernel) rfl
theorem wfX5_7 : Cond.fieldLink RX5 7 "TongueSwapModel" "hours" "[I" ∈ tk_W := tk_mem 748 (by decide +kernel) rfl
theorem wfX5_13 : Cond.fieldLink RX5 13 "TongueSwapModel" "claims" "[I" ∈ tk_W := tk_mem 749 (by decide +kernel) rfl
theorem wfX5_16 : Cond.fieldLink RX5 16 "TongueSwapModel" "lows" "[I" ∈ tk_W := tk_mem 750 (by decide +kernel) rfl
theorem wfX5_19 : Cond.fieldLink RX5 19 "TongueSwapModel" "highs" "[I" ∈ tk_W := tk_mem 751 (by decide +kernel) rfl
theorem wfX5_22 : Cond.fieldLink RX5 22 "TongueSwapModel" "tests" "[I" ∈ tk_W := tk_mem 752 (by decide +kernel) rfl
theorem wfX5_25 : Cond.fieldLink RX5 25 "TongueSwapModel" "odds" "[I" ∈ tk_W := tk_mem 753 (by decide +kernel) rfl
theorem wfX5_28 : Cond.fieldLink RX5 28 "TongueSwapModel" "wants" "[I" ∈ tk_W := tk_mem 754 (by decide +kernel) rfl
theorem wfX5_31 : Cond.fieldLink RX5 31 "TongueSwapModel" "manyWants" "[I" ∈ tk_W := tk_mem 755 (by decide +kernel) rfl
theorem wfX5_34 : Cond.fieldLink RX5 34 "TongueSwapModel" "bars" "[I" ∈ tk_W := tk_mem 756 (by decide +kernel) rfl
theorem wfX5_37 : Cond.fieldLink RX5 37 "TongueSwapModel" "waited" "[I" ∈ tk_W := tk_mem 757 (by decide +kernel) rfl
theorem wfX5_40 : Cond.fieldLink RX5 40 "TongueSwapModel" "ring" "[I" ∈ tk_W := tk_mem 759 (by decide +kernel) rfl
theorem wfX5_43 : Cond.fieldLink RX5 43 "TongueSwapModel" "ringHours" "[I" ∈ tk_W := tk_mem 760 (by decide +kernel) rfl
theorem wfX5_46 : Cond.fieldLink RX5 46 "TongueSwapModel" "hasMissed" "[Z" ∈ tk_W := tk_mem 761 (by decide +kernel) rfl
theorem wfX5_50 : Cond.fieldLink RX5 50 "TongueSwapModel" "words" "[I" ∈ tk_W := tk_mem 762 (by decide +kernel) rfl
theorem wfX5_53 : Cond.fieldLink RX5 53 "TongueSwapModel" "boxes" "[I" ∈ tk_W := tk_mem 763 (by decide +kernel) rfl
theorem wfX5_56 : Cond.fieldLink RX5 56 "TongueSwapModel" "dues" "[I" ∈ tk_W := tk_mem 764 (by decide +kernel) rfl
theorem wfX5_59 : Cond.fieldLink RX5 59 "TongueSwapModel" "tape" "[I" ∈ tk_W := tk_mem 765 (by decide +kernel) rfl
theorem wfX5_62 : Cond.fieldLink RX5 62 "TongueSwapModel" "mark" "[I" ∈ tk_W := tk_mem 768 (by decide +kernel) rfl
theorem wfX5_65 : Cond.fieldLink RX5 65 "TongueSwapModel" "at" "[I" ∈ tk_W := tk_mem 769 (by decide +kernel) rfl
theorem wfX5_68 : Cond.fieldLink RX5 68 "TongueSwapModel" "rows" "[I" ∈ tk_W := tk_mem 771 (by decide +kernel) rfl
theorem wfX5_71 : Cond.fieldLink RX5 71 "TongueSwapModel" "members" "[I" ∈ tk_W := tk_mem 772 (by decide +kernel) rfl
theorem wfX5_74 : Cond.fieldLink RX5 74 "TongueSwapModel" "weights" "[I" ∈ tk_W := tk_mem 773 (by decide +kernel) rfl
theorem wfX5_77 : Cond.fieldLink RX5 77 "TongueSwapModel" "from" "[I" ∈ tk_W := tk_mem 774 (by decide +kernel) rfl
theorem wfX5_80 : Cond.fieldLink RX5 80 "TongueSwapModel" "best" "[I" ∈ tk_W := tk_mem 775 (by decide +kernel) rfl
theorem wfX5_83 : Cond.fieldLink RX5 83 "TongueSwapModel" "threes" "[I" ∈ tk_W := tk_mem 776 (by decide +kernel) rfl
theorem wfX5_86 : Cond.fieldLink RX5 86 "TongueSwapModel" "rest" "[I" ∈ tk_W := tk_mem 777 (by decide +kernel) rfl
theorem wfX5_89 : Cond.fieldLink RX5 89 "TongueSwapModel" "thrown" "I" ∈ tk_W := tk_mem 743 (by decide +kernel) rfl
theorem wfX5_93 : Cond.fieldLink RX5 93 "TongueSwapModel" "learners" "I" ∈ tk_W := tk_mem 744 (by decide +kernel) rfl
theorem wfX5_136 : Cond.fieldLink RX5 136 "TongueSwapModel" "all" "I" ∈ tk_W := tk_mem 770 (by decide +kernel) rfl
theorem wfX5_153 : Cond.fieldLink RX5 153 "TongueSwapModel" "rings" "I" ∈ tk_W := tk_mem 758 (by decide +kernel) rfl
theorem wfX5_167 : Cond.fieldLink RX5 167 "TongueSwapModel" "day" "I" ∈ tk_W := tk_mem 745 (by decide +kernel) rfl
theorem wfX5_170 : Cond.fieldLink RX5 170 "TongueSwapModel" "weeks" "I" ∈ tk_W := tk_mem 746 (by decide +kernel) rfl
theorem wfX5_173 : Cond.fieldLink RX5 173 "TongueSwapModel" "served" "I" ∈ tk_W := tk_mem 747 (by decide +kernel) rfl
theorem wfX5_179 : Cond.fieldLink RX5 179 "TongueSwapModel" "taped" "I" ∈ tk_W := tk_mem 766 (by decide +kernel) rfl
theorem wfX5_201 : Cond.fieldLink RX5 201 "TongueSwapModel" "marks" "I" ∈ tk_W := tk_mem 767 (by decide +kernel) rfl
theorem wmX4_3 : Cond.methodLink RX4 3 objectInit ∈ tk_W := tk_mem 62 (by decide +kernel) rfl
theorem wmX4_45 : Cond.methodLink RX4 45 yX0_init ∈ tk_W := tk_mem 194 (by decide +kernel) rfl
theorem wmX4_48 : Cond.methodLink RX4 48 yX4_find ∈ tk_W := tk_mem 263 (by decide +kernel) rfl
theorem wmX4_55 : Cond.methodLink RX4 55 yX4_requireTongue ∈ tk_W := tk_mem 494 (by decide +kernel) rfl
theorem wmX4_68 : Cond.methodLink RX4 68 yX0_addWant ∈ tk_W := tk_mem 521 (by decide +kernel) rfl
theorem wmX4_75 : Cond.methodLink RX4 75 yX4_requireTwo ∈ tk_W := tk_mem 539 (by decide +kernel) rfl
theorem wmX4_79 : Cond.methodLink RX4 79 yX0_isBarred ∈ tk_W := tk_mem 346 (by decide +kernel) rfl
theorem wmX4_83 : Cond.methodLink RX4 83 yX0_setBar ∈ tk_W := tk_mem 544 (by decide +kernel) rfl
theorem wmX4_89 : Cond.methodLink RX4 89 yX0_takeTest ∈ tk_W := tk_mem 556 (by decide +kernel) rfl
theorem wmX4_105 : Cond.methodLink RX4 105 yX0_has ∈ tk_W := tk_mem 568 (by decide +kernel) rfl
theorem wmX4_113 : Cond.methodLink RX4 113 yX0_giftTo ∈ tk_W := tk_mem 334 (by decide +kernel) rfl
theorem wmX4_117 : Cond.methodLink RX4 117 yX4_commonHours ∈ tk_W := tk_mem 342 (by decide +kernel) rfl
theorem wmX4_121 : Cond.methodLink RX4 121 yX4_lowestBit ∈ tk_W := tk_mem 443 (by decide +kernel) rfl
theorem wmX4_126 : Cond.methodLink RX4 126 yX4_lookAtTies ∈ tk_W := tk_mem 259 (by decide +kernel) rfl
theorem wmX4_129 : Cond.methodLink RX4 129 yX3_ringHours ∈ tk_W := tk_mem 444 (by decide +kernel) rfl
theorem wmX4_133 : Cond.methodLink RX4 133 yX4_hourAt ∈ tk_W := tk_mem 445 (by decide +kernel) rfl
theorem wmX4_136 : Cond.methodLink RX4 136 yX1_begin ∈ tk_W := tk_mem 354 (by decide +kernel) rfl
theorem wmX4_142 : Cond.methodLink RX4 142 yX1_setWeight ∈ tk_W := tk_mem 364 (by decide +kernel) rfl
theorem wmX4_145 : Cond.methodLink RX4 145 yX1_gather ∈ tk_W := tk_mem 368 (by decide +kernel) rfl
theorem wmX4_149 : Cond.methodLink RX4 149 yX1_choose ∈ tk_W := tk_mem 407 (by decide +kernel) rfl
theorem wmX4_152 : Cond.methodLink RX4 152 yX4_takeRings ∈ tk_W := tk_mem 431 (by decide +kernel) rfl
theorem wmX4_155 : Cond.methodLink RX4 155 yX4_noteWeek ∈ tk_W := tk_mem 452 (by decide +kernel) rfl
theorem wmX4_164 : Cond.methodLink RX4 164 yJ6_bitCount_0f7a4 ∈ tk_W := tk_mem 461 (by decide +kernel) rfl
theorem wmX4_186 : Cond.methodLink RX4 186 yX0_waitLonger ∈ tk_W := tk_mem 456 (by decide +kernel) rfl
theorem wmX4_191 : Cond.methodLink RX4 191 yX0_addWord ∈ tk_W := tk_mem 630 (by decide +kernel) rfl
theorem wmX4_194 : Cond.methodLink RX4 194 yX4_requireWord ∈ tk_W := tk_mem 641 (by decide +kernel) rfl
theorem wmX4_198 : Cond.methodLink RX4 198 yX0_answerWord ∈ tk_W := tk_mem 645 (by decide +kernel) rfl
theorem wmX4_210 : Cond.methodLink RX4 210 yX0_firstDue ∈ tk_W := tk_mem 664 (by decide +kernel) rfl
theorem wmX4_213 : Cond.methodLink RX4 213 yX2_hasRoom ∈ tk_W := tk_mem 470 (by decide +kernel) rfl
theorem wmX4_217 : Cond.methodLink RX4 217 yX2_append ∈ tk_W := tk_mem 474 (by decide +kernel) rfl
theorem wmX4_227 : Cond.methodLink RX4 227 yX2_compare ∈ tk_W := tk_mem 677 (by decide +kernel) rfl
theorem wmX4_256 : Cond.methodLink RX4 256 yJ6_numberOfTrailingZeros_0f7a4 ∈ tk_W := tk_mem 396 (by decide +kernel) rfl
theorem wmX4_259 : Cond.methodLink RX4 259 yX3_setTie ∈ tk_W := tk_mem 350 (by decide +kernel) rfl
theorem wmX4_263 : Cond.methodLink RX4 263 yX1_choiceAt ∈ tk_W := tk_mem 435 (by decide +kernel) rfl
theorem wmX4_266 : Cond.methodLink RX4 266 yX4_takeRing ∈ tk_W := tk_mem 439 (by decide +kernel) rfl
theorem wmX4_272 : Cond.methodLink RX4 272 yX4_membersOfTaken ∈ tk_W := tk_mem 448 (by decide +kernel) rfl
theorem wmX0_3 : Cond.methodLink RX0 3 objectInit ∈ tk_W := tk_mem 197 (by decide +kernel) rfl
theorem wmX0_46 : Cond.methodLink RX0 46 Lib.Math.max.name ∈ tk_W := tk_mem 560 (by decide +kernel) rfl
theorem wmX0_52 : Cond.methodLink RX0 52 Lib.Math.min.name ∈ tk_W := tk_mem 460 (by decide +kernel) rfl
theorem wmX0_55 : Cond.methodLink RX0 55 yX0_has ∈ tk_W := tk_mem 338 (by decide +kernel) rfl
theorem wmX1_5 : Cond.methodLink RX1 5 objectInit ∈ tk_W := tk_mem 86 (by decide +kernel) rfl
theorem wmX1_34 : Cond.methodLink RX1 34 Lib.Math.min.name ∈ tk_W := tk_mem 358 (by decide +kernel) rfl
theorem wmX1_40 : Cond.methodLink RX1 40 Lib.Math.max.name ∈ tk_W := tk_mem 361 (by decide +kernel) rfl
theorem wmX1_54 : Cond.methodLink RX1 54 yX1_addIfRing ∈ tk_W := tk_mem 372 (by decide +kernel) rfl
theorem wmX1_58 : Cond.methodLink RX1 58 yX3_gives ∈ tk_W := tk_mem 376 (by decide +kernel) rfl
theorem wmX1_64 : Cond.methodLink RX1 64 yX3_ringHours ∈ tk_W := tk_mem 380 (by decide +kernel) rfl
theorem wmX1_68 : Cond.methodLink RX1 68 yX1_bestWorth ∈ tk_W := tk_mem 411 (by decide +kernel) rfl
theorem wmX1_71 : Cond.methodLink RX1 71 yX1_isKnown ∈ tk_W := tk_mem 415 (by decide +kernel) rfl
theorem wmX1_76 : Cond.methodLink RX1 76 yJ6_numberOfTrailingZeros_0f7a4 ∈ tk_W := tk_mem 420 (by decide +kernel) rfl
theorem wmX1_82 : Cond.methodLink RX1 82 yX1_weightOf ∈ tk_W := tk_mem 421 (by decide +kernel) rfl
theorem wmX1_85 : Cond.methodLink RX1 85 yJ6_bitCount_0f7a4 ∈ tk_W := tk_mem 425 (by decide +kernel) rfl
theorem wmX2_3 : Cond.methodLink RX2 3 objectInit ∈ tk_W := tk_mem 127 (by decide +kernel) rfl
theorem wmX2_32 : Cond.methodLink RX2 32 yX2_fillCosts ∈ tk_W := tk_mem 681 (by decide +kernel) rfl
theorem wmX2_35 : Cond.methodLink RX2 35 yX2_writeMarks ∈ tk_W := tk_mem 705 (by decide +kernel) rfl
theorem wmX2_38 : Cond.methodLink RX2 38 yX2_leastCost ∈ tk_W := tk_mem 685 (by decide +kernel) rfl
theorem wmX2_43 : Cond.methodLink RX2 43 yX2_costBy ∈ tk_W := tk_mem 690 (by decide +kernel) rfl
theorem wmX2_47 : Cond.methodLink RX2 47 Lib.Math.min.name ∈ tk_W := tk_mem 704 (by decide +kernel) rfl
theorem wmX2_55 : Cond.methodLink RX2 55 yX2_firstKind ∈ tk_W := tk_mem 709 (by decide +kernel) rfl
theorem wmX2_64 : Cond.methodLink RX2 64 yX2_fits ∈ tk_W := tk_mem 698 (by decide +kernel) rfl
theorem wmX3_3 : Cond.methodLink RX3 3 objectInit ∈ tk_W := tk_mem 72 (by decide +kernel) rfl
theorem wmX3_18 : Cond.methodLink RX3 18 yX3_pairHours ∈ tk_W := tk_mem 384 (by decide +kernel) rfl
theorem wmX3_22 : Cond.methodLink RX3 22 yX3_tripleHours ∈ tk_W := tk_mem 400 (by decide +kernel) rfl
theorem wmX3_26 : Cond.methodLink RX3 26 yX3_gives ∈ tk_W := tk_mem 388 (by decide +kernel) rfl
theorem wmX3_30 : Cond.methodLink RX3 30 yX3_shared ∈ tk_W := tk_mem 389 (by decide +kernel) rfl
theorem wmX3_37 : Cond.methodLink RX3 37 yX3_firstUnlikeHours ∈ tk_W := tk_mem 404 (by decide +kernel) rfl
theorem wmL_7 : Cond.methodLink RL 7 yX4_hours ∈ tk_W := tk_mem 482 (by decide +kernel) rfl
theorem wmL_15 : Cond.methodLink RL 15 yX4_claim ∈ tk_W := tk_mem 490 (by decide +kernel) rfl
theorem wmL_21 : Cond.methodLink RL 21 yX4_want ∈ tk_W := tk_mem 517 (by decide +kernel) rfl
theorem wmL_24 : Cond.methodLink RL 24 yX4_unwant ∈ tk_W := tk_mem 528 (by decide +kernel) rfl
theorem wmL_28 : Cond.methodLink RL 28 yX4_bar ∈ tk_W := tk_mem 535 (by decide +kernel) rfl
theorem wmL_32 : Cond.methodLink RL 32 yX4_test ∈ tk_W := tk_mem 551 (by decide +kernel) rfl
theorem wmL_36 : Cond.methodLink RL 36 yX4_level ∈ tk_W := tk_mem 564 (by decide +kernel) rfl
theorem wmL_39 : Cond.methodLink RL 39 yX4_gift ∈ tk_W := tk_mem 573 (by decide +kernel) rfl
theorem wmL_42 : Cond.methodLink RL 42 yX4_meet ∈ tk_W := tk_mem 580 (by decide +kernel) rfl
theorem wmL_45 : Cond.methodLink RL 45 yX4_ring ∈ tk_W := tk_mem 587 (by decide +kernel) rfl
theorem wmL_49 : Cond.methodLink RL 49 yX4_ringOf ∈ tk_W := tk_mem 595 (by decide +kernel) rfl
theorem wmL_52 : Cond.methodLink RL 52 yX4_missed ∈ tk_W := tk_mem 604 (by decide +kernel) rfl
theorem wmL_56 : Cond.methodLink RL 56 yX4_waited ∈ tk_W := tk_mem 611 (by decide +kernel) rfl
theorem wmL_59 : Cond.methodLink RL 59 yX4_days ∈ tk_W := tk_mem 618 (by decide +kernel) rfl
theorem wmL_62 : Cond.methodLink RL 62 yX4_word ∈ tk_W := tk_mem 626 (by decide +kernel) rfl
theorem wmL_65 : Cond.methodLink RL 65 yX4_asked ∈ tk_W := tk_mem 637 (by decide +kernel) rfl
theorem wmL_68 : Cond.methodLink RL 68 yX4_wordOf ∈ tk_W := tk_mem 652 (by decide +kernel) rfl
theorem wmL_71 : Cond.methodLink RL 71 yX4_next ∈ tk_W := tk_mem 660 (by decide +kernel) rfl
theorem wmL_74 : Cond.methodLink RL 74 yX4_correct ∈ tk_W := tk_mem 671 (by decide +kernel) rfl
theorem wmL_77 : Cond.methodLink RL 77 yX4_mark ∈ tk_W := tk_mem 716 (by decide +kernel) rfl
theorem wmL_80 : Cond.methodLink RL 80 yX4_marks ∈ tk_W := tk_mem 724 (by decide +kernel) rfl
theorem wmL_83 : Cond.methodLink RL 83 yX4_count ∈ tk_W := tk_mem 732 (by decide +kernel) rfl
theorem wmL_86 : Cond.methodLink RL 86 yX4_init ∈ tk_W := tk_mem 59 (by decide +kernel) rfl
theorem wmL_89 : Cond.methodLink RL 89 yX5_init ∈ tk_W := tk_mem 739 (by decide +kernel) rfl
theorem wmL_90 : Cond.methodLink RL 90 yX4_learner ∈ tk_W := tk_mem 188 (by decide +kernel) rfl
theorem wmL_93 : Cond.methodLink RL 93 yX5_learner ∈ tk_W := tk_mem 854 (by decide +kernel) rfl
theorem wmL_94 : Cond.methodLink RL 94 yL_hours ∈ tk_W := tk_mem 478 (by decide +kernel) rfl
theorem wmL_99 : Cond.methodLink RL 99 yX5_hours ∈ tk_W := tk_mem 859 (by decide +kernel) rfl
theorem wmL_100 : Cond.methodLink RL 100 yX5_thrown ∈ tk_W := tk_mem 850 (by decide +kernel) rfl
theorem wmL_104 : Cond.methodLink RL 104 yL_claim ∈ tk_W := tk_mem 486 (by decide +kernel) rfl
theorem wmL_107 : Cond.methodLink RL 107 yX5_claim ∈ tk_W := tk_mem 871 (by decide +kernel) rfl
theorem wmL_108 : Cond.methodLink RL 108 yL_want ∈ tk_W := tk_mem 514 (by decide +kernel) rfl
theorem wmL_110 : Cond.methodLink RL 110 yX5_want ∈ tk_W := tk_mem 879 (by decide +kernel) rfl
theorem wmL_111 : Cond.methodLink RL 111 yL_unwant ∈ tk_W := tk_mem 525 (by decide +kernel) rfl
theorem wmL_114 : Cond.methodLink RL 114 yX5_unwant ∈ tk_W := tk_mem 883 (by decide +kernel) rfl
theorem wmL_115 : Cond.methodLink RL 115 yL_bar ∈ tk_W := tk_mem 532 (by decide +kernel) rfl
theorem wmL_118 : Cond.methodLink RL 118 yX5_bar ∈ tk_W := tk_mem 887 (by decide +kernel) rfl
theorem wmL_119 : Cond.methodLink RL 119 yL_test ∈ tk_W := tk_mem 548 (by decide +kernel) rfl
theorem wmL_122 : Cond.methodLink RL 122 yX5_test ∈ tk_W := tk_mem 899 (by decide +kernel) rfl
theorem wmL_123 : Cond.methodLink RL 123 yL_level ∈ tk_W := tk_mem 561 (by decide +kernel) rfl
theorem wmL_125 : Cond.methodLink RL 125 yX5_level ∈ tk_W := tk_mem 903 (by decide +kernel) rfl
theorem wmL_126 : Cond.methodLink RL 126 yL_gift ∈ tk_W := tk_mem 570 (by decide +kernel) rfl
theorem wmL_128 : Cond.methodLink RL 128 yX5_gift ∈ tk_W := tk_mem 911 (by decide +kernel) rfl
theorem wmL_129 : Cond.methodLink RL 129 yL_meet ∈ tk_W := tk_mem 577 (by decide +kernel) rfl
theorem wmL_131 : Cond.methodLink RL 131 yX5_meet ∈ tk_W := tk_mem 919 (by decide +kernel) rfl
theorem wmL_132 : Cond.methodLink RL 132 yL_ring ∈ tk_W := tk_mem 584 (by decide +kernel) rfl
theorem wmL_135 : Cond.methodLink RL 135 yX5_ring ∈ tk_W := tk_mem 930 (by decide +kernel) rfl
theorem wmL_136 : Cond.methodLink RL 136 yX4_week ∈ tk_W := tk_mem 255 (by decide +kernel) rfl
theorem wmL_139 : Cond.methodLink RL 139 yX5_week ∈ tk_W := tk_mem 942 (by decide +kernel) rfl
theorem wmL_140 : Cond.methodLink RL 140 yX4_rings ∈ tk_W := tk_mem 462 (by decide +kernel) rfl
theorem wmL_143 : Cond.methodLink RL 143 yX5_rings ∈ tk_W := tk_mem 974 (by decide +kernel) rfl
theorem wmL_144 : Cond.methodLink RL 144 yL_ringOf ∈ tk_W := tk_mem 592 (by decide +kernel) rfl
theorem wmL_146 : Cond.methodLink RL 146 yX5_ringOf ∈ tk_W := tk_mem 978 (by decide +kernel) rfl
theorem wmL_147 : Cond.methodLink RL 147 yL_missed ∈ tk_W := tk_mem 601 (by decide +kernel) rfl
theorem wmL_149 : Cond.methodLink RL 149 yX5_missed ∈ tk_W := tk_mem 982 (by decide +kernel) rfl
theorem wmL_150 : Cond.methodLink RL 150 yL_waited ∈ tk_W := tk_mem 608 (by decide +kernel) rfl
theorem wmL_152 : Cond.methodLink RL 152 yX5_waited ∈ tk_W := tk_mem 986 (by decide +kernel) rfl
theorem wmL_153 : Cond.methodLink RL 153 yL_days ∈ tk_W := tk_mem 615 (by decide +kernel) rfl
theorem wmL_155 : Cond.methodLink RL 155 yX5_days ∈ tk_W := tk_mem 990 (by decide +kernel) rfl
theorem wmL_156 : Cond.methodLink RL 156 yL_word ∈ tk_W := tk_mem 623 (by decide +kernel) rfl
theorem wmL_158 : Cond.methodLink RL 158 yX5_word ∈ tk_W := tk_mem 994 (by decide +kernel) rfl
theorem wmL_159 : Cond.methodLink RL 159 yL_asked ∈ tk_W := tk_mem 634 (by decide +kernel) rfl
theorem wmL_161 : Cond.methodLink RL 161 yX5_asked ∈ tk_W := tk_mem 998 (by decide +kernel) rfl
theorem wmL_162 : Cond.methodLink RL 162 yL_wordOf ∈ tk_W := tk_mem 649 (by decide +kernel) rfl
theorem wmL_164 : Cond.methodLink RL 164 yX5_wordOf ∈ tk_W := tk_mem 1006 (by decide +kernel) rfl
theorem wmL_165 : Cond.methodLink RL 165 yL_next ∈ tk_W := tk_mem 657 (by decide +kernel) rfl
theorem wmL_167 : Cond.methodLink RL 167 yX5_next ∈ tk_W := tk_mem 1010 (by decide +kernel) rfl
theorem wmL_168 : Cond.methodLink RL 168 yX4_feed ∈ tk_W := tk_mem 466 (by decide +kernel) rfl
theorem wmL_172 : Cond.methodLink RL 172 yX5_feed ∈ tk_W := tk_mem 1014 (by decide +kernel) rfl
theorem wmL_173 : Cond.methodLink RL 173 yL_correct ∈ tk_W := tk_mem 668 (by decide +kernel) rfl
theorem wmL_175 : Cond.methodLink RL 175 yX5_correct ∈ tk_W := tk_mem 1022 (by decide +kernel) rfl
theorem wmL_176 : Cond.methodLink RL 176 yL_mark ∈ tk_W := tk_mem 713 (by decide +kernel) rfl
theorem wmL_178 : Cond.methodLink RL 178 yX5_mark ∈ tk_W := tk_mem 1043 (by decide +kernel) rfl
theorem wmL_179 : Cond.methodLink RL 179 yL_marks ∈ tk_W := tk_mem 721 (by decide +kernel) rfl
theorem wmL_181 : Cond.methodLink RL 181 yX5_marks ∈ tk_W := tk_mem 1047 (by decide +kernel) rfl
theorem wmL_182 : Cond.methodLink RL 182 yL_count ∈ tk_W := tk_mem 729 (by decide +kernel) rfl
theorem wmL_184 : Cond.methodLink RL 184 yX5_count ∈ tk_W := tk_mem 1051 (by decide +kernel) rfl
theorem wmX5_1 : Cond.methodLink RX5 1 objectInit ∈ tk_W := tk_mem 742 (by decide +kernel) rfl
theorem wmX5_96 : Cond.methodLink RX5 96 yX5_right ∈ tk_W := tk_mem 867 (by decide +kernel) rfl
theorem wmX5_100 : Cond.methodLink RX5 100 yX5_isLearner ∈ tk_W := tk_mem 863 (by decide +kernel) rfl
theorem wmX5_105 : Cond.methodLink RX5 105 yX5_isTongue ∈ tk_W := tk_mem 875 (by decide +kernel) rfl
theorem wmX5_109 : Cond.methodLink RX5 109 yX5_areTwo ∈ tk_W := tk_mem 891 (by decide +kernel) rfl
theorem wmX5_112 : Cond.methodLink RX5 112 yX5_isBarred ∈ tk_W := tk_mem 895 (by decide +kernel) rfl
theorem wmX5_115 : Cond.methodLink RX5 115 yX5_has ∈ tk_W := tk_mem 907 (by decide +kernel) rfl
theorem wmX5_118 : Cond.methodLink RX5 118 yX5_giftOf ∈ tk_W := tk_mem 915 (by decide +kernel) rfl
theorem wmX5_122 : Cond.methodLink RX5 122 yX5_both ∈ tk_W := tk_mem 923 (by decide +kernel) rfl
theorem wmX5_125 : Cond.methodLink RX5 125 yX5_hour ∈ tk_W := tk_mem 927 (by decide +kernel) rfl
theorem wmX5_129 : Cond.methodLink RX5 129 yX5_isPair ∈ tk_W := tk_mem 934 (by decide +kernel) rfl
theorem wmX5_132 : Cond.methodLink RX5 132 yX5_isThree ∈ tk_W := tk_mem 938 (by decide +kernel) rfl
theorem wmX5_139 : Cond.methodLink RX5 139 yX5_comes ∈ tk_W := tk_mem 950 (by decide +kernel) rfl
theorem wmX5_143 : Cond.methodLink RX5 143 yX5_least ∈ tk_W := tk_mem 958 (by decide +kernel) rfl
theorem wmX5_147 : Cond.methodLink RX5 147 yX5_finds ∈ tk_W := tk_mem 946 (by decide +kernel) rfl
theorem wmX5_150 : Cond.methodLink RX5 150 yX5_serves ∈ tk_W := tk_mem 954 (by decide +kernel) rfl
theorem wmX5_156 : Cond.methodLink RX5 156 yX5_isBest ∈ tk_W := tk_mem 962 (by decide +kernel) rfl
theorem wmX5_159 : Cond.methodLink RX5 159 yX5_taken ∈ tk_W := tk_mem 966 (by decide +kernel) rfl
theorem wmX5_163 : Cond.methodLink RX5 163 yX5_more ∈ tk_W := tk_mem 970 (by decide +kernel) rfl
theorem wmX5_176 : Cond.methodLink RX5 176 yX5_isWord ∈ tk_W := tk_mem 1002 (by decide +kernel) rfl
theorem wmX5_182 : Cond.methodLink RX5 182 yX5_lays ∈ tk_W := tk_mem 1018 (by decide +kernel) rfl
theorem wmX5_185 : Cond.methodLink RX5 185 yX5_said ∈ tk_W := tk_mem 1030 (by decide +kernel) rfl
theorem wmX5_188 : Cond.methodLink RX5 188 yX5_meant ∈ tk_W := tk_mem 1033 (by decide +kernel) rfl
theorem wmX5_191 : Cond.methodLink RX5 191 yX5_costOf ∈ tk_W := tk_mem 1040 (by decide +kernel) rfl
theorem wmX5_194 : Cond.methodLink RX5 194 yX5_can ∈ tk_W := tk_mem 1026 (by decide +kernel) rfl
theorem wmX5_198 : Cond.methodLink RX5 198 yX5_after ∈ tk_W := tk_mem 1036 (by decide +kernel) rfl
theorem wtJ6_bitCount_0f7a4 : Cond.static yJ6_bitCount_0f7a4 ∈ tk_W := tk_mem 426 (by decide +kernel) rfl
abbrev coJ6_bitCount_0f7a4 : Cond := .code yJ6_bitCount_0f7a4 cJ6_bitCount_0f7a4 1 (some .int)
set_option maxRecDepth 20000 in
theorem wcJ6_bitCount_0f7a4 : coJ6_bitCount_0f7a4 ∈ tk_W := tk_mem 427 rfl rfl
theorem wtJ6_numberOfTrailingZeros_0f7a4 : Cond.static yJ6_numberOfTrailingZeros_0f7a4 ∈ tk_W := tk_mem 397 (by decide +kernel) rfl
abbrev coJ6_numberOfTrailingZeros_0f7a4 : Cond := .code yJ6_numberOfTrailingZeros_0f7a4 cJ6_numberOfTrailingZeros_0f7a4 2 (some .int)
set_option maxRecDepth 20000 in
theorem wcJ6_numberOfTrailingZeros_0f7a4 : coJ6_numberOfTrailingZeros_0f7a4 ∈ tk_W := tk_mem 398 rfl rfl
theorem wtL_asked : Cond.static yL_asked ∈ tk_W := tk_mem 635 (by decide +kernel) rfl
abbrev coL_asked : Cond := .codeWith yL_asked cL_asked 6 (some .int) [(0, 19, 22, 13)]
set_option maxRecDepth 20000 in
theorem wcL_asked : coL_asked ∈ tk_W := tk_mem 636 rfl rfl
theorem wtL_bar : Cond.static yL_bar ∈ tk_W := tk_mem 533 (by decide +kernel) rfl
abbrev coL_bar : Cond := .codeWith yL_bar cL_bar 6 (some .int) [(0, 19, 22, 13)]
set_option maxRecDepth 20000 in
theorem wcL_bar : coL_bar ∈ tk_W := tk_mem 534 rfl rfl
theorem wtL_claim : Cond.static yL_claim ∈ tk_W := tk_mem 487 (by decide +kernel) rfl
abbrev coL_claim : Cond := .codeWith yL_claim cL_claim 6 (some .int) [(0, 12, 15, 13), (0, 12, 19, 19)]
set_option maxRecDepth 20000 in
theorem wcL_claim : coL_claim ∈ tk_W := tk_mem 488 rfl rfl
theorem wtL_correct : Cond.static yL_correct ∈ tk_W := tk_mem 669 (by decide +kernel) rfl
abbrev coL_correct : Cond := .codeWith yL_correct cL_correct 5 (some .int) [(0, 10, 13, 19)]
set_option maxRecDepth 20000 in
theorem wcL_correct : coL_correct ∈ tk_W := tk_mem 670 rfl rfl
theorem wtL_count : Cond.static yL_count ∈ tk_W := tk_mem 730 (by decide +kernel) rfl
abbrev coL_count : Cond := .codeWith yL_count cL_count 4 (some .int) [(0, 9, 12, 13)]
set_option maxRecDepth 20000 in
theorem wcL_count : coL_count ∈ tk_W := tk_mem 731 rfl rfl
theorem wtL_days : Cond.static yL_days ∈ tk_W := tk_mem 616 (by decide +kernel) rfl
abbrev coL_days : Cond := .codeWith yL_days cL_days 4 (some .int) [(0, 9, 12, 19)]
set_option maxRecDepth 20000 in
theorem wcL_days : coL_days ∈ tk_W := tk_mem 617 rfl rfl
theorem wtL_gift : Cond.static yL_gift ∈ tk_W := tk_mem 571 (by decide +kernel) rfl
abbrev coL_gift : Cond := .codeWith yL_gift cL_gift 5 (some .int) [(0, 10, 13, 13)]
set_option maxRecDepth 20000 in
theorem wcL_gift : coL_gift ∈ tk_W := tk_mem 572 rfl rfl
theorem wtL_hours : Cond.static yL_hours ∈ tk_W := tk_mem 479 (by decide +kernel) rfl
abbrev coL_hours : Cond := .codeWith yL_hours cL_hours 5 (some .int) [(0, 10, 13, 13)]
set_option maxRecDepth 20000 in
theorem wcL_hours : coL_hours ∈ tk_W := tk_mem 480 rfl rfl
theorem wtL_level : Cond.static yL_level ∈ tk_W := tk_mem 562 (by decide +kernel) rfl
abbrev coL_level : Cond := .codeWith yL_level cL_level 6 (some .int) [(0, 12, 15, 13)]
set_option maxRecDepth 20000 in
theorem wcL_level : coL_level ∈ tk_W := tk_mem 563 rfl rfl
theorem wtL_mark : Cond.static yL_mark ∈ tk_W := tk_mem 714 (by decide +kernel) rfl
abbrev coL_mark : Cond := .codeWith yL_mark cL_mark 4 (some .int) [(0, 9, 12, 13)]
set_option maxRecDepth 20000 in
theorem wcL_mark : coL_mark ∈ tk_W := tk_mem 715 rfl rfl
theorem wtL_marks : Cond.static yL_marks ∈ tk_W := tk_mem 722 (by decide +kernel) rfl
abbrev coL_marks : Cond := .codeWith yL_marks cL_marks 4 (some .int) [(0, 9, 12, 13)]
set_option maxRecDepth 20000 in
theorem wcL_marks : coL_marks ∈ tk_W := tk_mem 723 rfl rfl
theorem wtL_meet : Cond.static yL_meet ∈ tk_W := tk_mem 578 (by decide +kernel) rfl
abbrev coL_meet : Cond := .codeWith yL_meet cL_meet 5 (some .int) [(0, 10, 13, 13)]
set_option maxRecDepth 20000 in
theorem wcL_meet : coL_meet ∈ tk_W := tk_mem 579 rfl rfl
theorem wtL_missed : Cond.static yL_missed ∈ tk_W := tk_mem 602 (by decide +kernel) rfl
abbrev coL_missed : Cond := .codeWith yL_missed cL_missed 4 (some .int) [(0, 16, 19, 13)]
set_option maxRecDepth 20000 in
theorem wcL_missed : coL_missed ∈ tk_W := tk_mem 603 rfl rfl
theorem wtL_next : Cond.static yL_next ∈ tk_W := tk_mem 658 (by decide +kernel) rfl
abbrev coL_next : Cond := .codeWith yL_next cL_next 4 (some .int) [(0, 9, 12, 13)]
set_option maxRecDepth 20000 in
theorem wcL_next : coL_next ∈ tk_W := tk_mem 659 rfl rfl
theorem wtL_ring : Cond.static yL_ring ∈ tk_W := tk_mem 585 (by decide +kernel) rfl
abbrev coL_ring : Cond := .codeWith yL_ring cL_ring 7 (some .int) [(0, 14, 17, 13)]
set_option maxRecDepth 20000 in
theorem wcL_ring : coL_ring ∈ tk_W := tk_mem 586 rfl rfl
theorem wtL_ringOf : Cond.static yL_ringOf ∈ tk_W := tk_mem 593 (by decide +kernel) rfl
abbrev coL_ringOf : Cond := .codeWith yL_ringOf cL_ringOf 5 (some .int) [(0, 10, 13, 13)]
set_option maxRecDepth 20000 in
theorem wcL_ringOf : coL_ringOf ∈ tk_W := tk_mem 594 rfl rfl
theorem wtL_test : Cond.static yL_test ∈ tk_W := tk_mem 549 (by decide +kernel) rfl
abbrev coL_test : Cond := .codeWith yL_test cL_test 7 (some .int) [(0, 21, 24, 13), (0, 21, 28, 19)]
set_option maxRecDepth 20000 in
theorem wcL_test : coL_test ∈ tk_W := tk_mem 550 rfl rfl
theorem wtL_unwant : Cond.static yL_unwant ∈ tk_W := tk_mem 526 (by decide +kernel) rfl
abbrev coL_unwant : Cond := .codeWith yL_unwant cL_unwant 4 (some .int) [(0, 9, 12, 13)]
set_option maxRecDepth 20000 in
theorem wcL_unwant : coL_unwant ∈ tk_W := tk_mem 527 rfl rfl
theorem wtL_waited : Cond.static yL_waited ∈ tk_W := tk_mem 609 (by decide +kernel) rfl
abbrev coL_waited : Cond := .codeWith yL_waited cL_waited 4 (some .int) [(0, 9, 12, 13)]
set_option maxRecDepth 20000 in
theorem wcL_waited : coL_waited ∈ tk_W := tk_mem 610 rfl rfl
theorem wtL_want : Cond.static yL_want ∈ tk_W := tk_mem 515 (by decide +kernel) rfl
abbrev coL_want : Cond := .codeWith yL_want cL_want 5 (some .int) [(0, 10, 13, 13)]
set_option maxRecDepth 20000 in
theorem wcL_want : coL_want ∈ tk_W := tk_mem 516 rfl rfl
theorem wtL_word : Cond.static yL_word ∈ tk_W := tk_mem 624 (by decide +kernel) rfl
abbrev coL_word : Cond := .codeWith yL_word cL_word 4 (some .int) [(0, 9, 12, 13)]
set_option maxRecDepth 20000 in
theorem wcL_word : coL_word ∈ tk_W := tk_mem 625 rfl rfl
theorem wtL_wordOf : Cond.static yL_wordOf ∈ tk_W := tk_mem 650 (by decide +kernel) rfl
abbrev coL_wordOf : Cond := .codeWith yL_wordOf cL_wordOf 6 (some .int) [(0, 12, 15, 13)]
set_option maxRecDepth 20000 in
theorem wcL_wordOf : coL_wordOf ∈ tk_W := tk_mem 651 rfl rfl
theorem wiX0_addWant : Cond.instanceMethod yX0_addWant ∈ tk_W := tk_mem 522 (by decide +kernel) rfl
theorem weX0_addWant : Cond.selects RX0 yX0_addWant yX0_addWant ∈ tk_W := tk_mem 523 (by decide +kernel) rfl
abbrev coX0_addWant : Cond := .code yX0_addWant cX0_addWant 3 (some .int)
set_option maxRecDepth 20000 in
theorem wcX0_addWant : coX0_addWant ∈ tk_W := tk_mem 524 rfl rfl
theorem wiX0_addWord : Cond.instanceMethod yX0_addWord ∈ tk_W := tk_mem 631 (by decide +kernel) rfl
theorem weX0_addWord : Cond.selects RX0 yX0_addWord yX0_addWord ∈ tk_W := tk_mem 632 (by decide +kernel) rfl
abbrev coX0_addWord : Cond := .code yX0_addWord cX0_addWord 2 (some .int)
set_option maxRecDepth 20000 in
theorem wcX0_addWord : coX0_addWord ∈ tk_W := tk_mem 633 rfl rfl
theorem wiX0_answerWord : Cond.instanceMethod yX0_answerWord ∈ tk_W := tk_mem 646 (by decide +kernel) rfl
theorem weX0_answerWord : Cond.selects RX0 yX0_answerWord yX0_answerWord ∈ tk_W := tk_mem 647 (by decide +kernel) rfl
abbrev coX0_answerWord : Cond := .code yX0_answerWord cX0_answerWord 4 (some .boolean)
set_option maxRecDepth 20000 in
theorem wcX0_answerWord : coX0_answerWord ∈ tk_W := tk_mem 648 rfl rfl
theorem wiX0_firstDue : Cond.instanceMethod yX0_firstDue ∈ tk_W := tk_mem 665 (by decide +kernel) rfl
theorem weX0_firstDue : Cond.selects RX0 yX0_firstDue yX0_firstDue ∈ tk_W := tk_mem 666 (by decide +kernel) rfl
abbrev coX0_firstDue : Cond := .code yX0_firstDue cX0_firstDue 4 (some .int)
set_option maxRecDepth 20000 in
theorem wcX0_firstDue : coX0_firstDue ∈ tk_W := tk_mem 667 rfl rfl
theorem wiX0_giftTo : Cond.instanceMethod yX0_giftTo ∈ tk_W := tk_mem 335 (by decide +kernel) rfl
theorem weX0_giftTo : Cond.selects RX0 yX0_giftTo yX0_giftTo ∈ tk_W := tk_mem 336 (by decide +kernel) rfl
abbrev coX0_giftTo : Cond := .code yX0_giftTo cX0_giftTo 3 (some .int)
set_option maxRecDepth 20000 in
theorem wcX0_giftTo : coX0_giftTo ∈ tk_W := tk_mem 337 rfl rfl
theorem wiX0_has : Cond.instanceMethod yX0_has ∈ tk_W := tk_mem 339 (by decide +kernel) rfl
theorem weX0_has : Cond.selects RX0 yX0_has yX0_has ∈ tk_W := tk_mem 340 (by decide +kernel) rfl
abbrev coX0_has : Cond := .code yX0_has cX0_has 2 (some .boolean)
set_option maxRecDepth 20000 in
theorem wcX0_has : coX0_has ∈ tk_W := tk_mem 341 rfl rfl
theorem wiX0_init : Cond.instanceMethod yX0_init ∈ tk_W := tk_mem 195 (by decide +kernel) rfl
abbrev coX0_init : Cond := .code yX0_init cX0_init 3 none
set_option maxRecDepth 20000 in
theorem wcX0_init : coX0_init ∈ tk_W := tk_mem 196 rfl rfl
theorem wiX0_isBarred : Cond.instanceMethod yX0_isBarred ∈ tk_W := tk_mem 347 (by decide +kernel) rfl
theorem weX0_isBarred : Cond.selects RX0 yX0_isBarred yX0_isBarred ∈ tk_W := tk_mem 348 (by decide +kernel) rfl
abbrev coX0_isBarred : Cond := .code yX0_isBarred cX0_isBarred 2 (some .boolean)
set_option maxRecDepth 20000 in
theorem wcX0_isBarred : coX0_isBarred ∈ tk_W := tk_mem 349 rfl rfl
theorem wiX0_setBar : Cond.instanceMethod yX0_setBar ∈ tk_W := tk_mem 545 (by decide +kernel) rfl
theorem weX0_setBar : Cond.selects RX0 yX0_setBar yX0_setBar ∈ tk_W := tk_mem 546 (by decide +kernel) rfl
abbrev coX0_setBar : Cond := .code yX0_setBar cX0_setBar 3 none
set_option maxRecDepth 20000 in
theorem wcX0_setBar : coX0_setBar ∈ tk_W := tk_mem 547 rfl rfl
theorem wiX0_takeTest : Cond.instanceMethod yX0_takeTest ∈ tk_W := tk_mem 557 (by decide +kernel) rfl
theorem weX0_takeTest : Cond.selects RX0 yX0_takeTest yX0_takeTest ∈ tk_W := tk_mem 558 (by decide +kernel) rfl
abbrev coX0_takeTest : Cond := .code yX0_takeTest cX0_takeTest 6 (some .boolean)
set_option maxRecDepth 20000 in
theorem wcX0_takeTest : coX0_takeTest ∈ tk_W := tk_mem 559 rfl rfl
theorem wiX0_waitLonger : Cond.instanceMethod yX0_waitLonger ∈ tk_W := tk_mem 457 (by decide +kernel) rfl
theorem weX0_waitLonger : Cond.selects RX0 yX0_waitLonger yX0_waitLonger ∈ tk_W := tk_mem 458 (by decide +kernel) rfl
abbrev coX0_waitLonger : Cond := .code yX0_waitLonger cX0_waitLonger 2 none
set_option maxRecDepth 20000 in
theorem wcX0_waitLonger : coX0_waitLonger ∈ tk_W := tk_mem 459 rfl rfl
theorem wiX1_addIfRing : Cond.instanceMethod yX1_addIfRing ∈ tk_W := tk_mem 374 (by decide +kernel) rfl
theorem weX1_addIfRing : Cond.selects RX1 yX1_addIfRing yX1_addIfRing ∈ tk_W := tk_mem 4 (by decide +kernel) rfl
abbrev coX1_addIfRing : Cond := .code yX1_addIfRing cX1_addIfRing 6 none
set_option maxRecDepth 20000 in
theorem wcX1_addIfRing : coX1_addIfRing ∈ tk_W := tk_mem 375 rfl rfl
theorem wiX1_begin : Cond.instanceMethod yX1_begin ∈ tk_W := tk_mem 355 (by decide +kernel) rfl
theorem weX1_begin : Cond.selects RX1 yX1_begin yX1_begin ∈ tk_W := tk_mem 356 (by decide +kernel) rfl
abbrev coX1_begin : Cond := .code yX1_begin cX1_begin 2 none
set_option maxRecDepth 20000 in
theorem wcX1_begin : coX1_begin ∈ tk_W := tk_mem 357 rfl rfl
theorem wiX1_bestWorth : Cond.instanceMethod yX1_bestWorth ∈ tk_W := tk_mem 413 (by decide +kernel) rfl
theorem weX1_bestWorth : Cond.selects RX1 yX1_bestWorth yX1_bestWorth ∈ tk_W := tk_mem 8 (by decide +kernel) rfl
abbrev coX1_bestWorth : Cond := .code yX1_bestWorth cX1_bestWorth 10 (some .int)
set_option maxRecDepth 20000 in
theorem wcX1_bestWorth : coX1_bestWorth ∈ tk_W := tk_mem 414 rfl rfl
theorem wiX1_choiceAt : Cond.instanceMethod yX1_choiceAt ∈ tk_W := tk_mem 436 (by decide +kernel) rfl
theorem weX1_choiceAt : Cond.selects RX1 yX1_choiceAt yX1_choiceAt ∈ tk_W := tk_mem 437 (by decide +kernel) rfl
abbrev coX1_choiceAt : Cond := .code yX1_choiceAt cX1_choiceAt 3 (some .int)
set_option maxRecDepth 20000 in
theorem wcX1_choiceAt : coX1_choiceAt ∈ tk_W := tk_mem 438 rfl rfl
theorem wiX1_choose : Cond.instanceMethod yX1_choose ∈ tk_W := tk_mem 408 (by decide +kernel) rfl
theorem weX1_choose : Cond.selects RX1 yX1_choose yX1_choose ∈ tk_W := tk_mem 409 (by decide +kernel) rfl
abbrev coX1_choose : Cond := .code yX1_choose cX1_choose 1 none
set_option maxRecDepth 20000 in
theorem wcX1_choose : coX1_choose ∈ tk_W := tk_mem 410 rfl rfl
theorem wiX1_gather : Cond.instanceMethod yX1_gather ∈ tk_W := tk_mem 369 (by decide +kernel) rfl
theorem weX1_gather : Cond.selects RX1 yX1_gather yX1_gather ∈ tk_W := tk_mem 370 (by decide +kernel) rfl
abbrev coX1_gather : Cond := .code yX1_gather cX1_gather 5 none
set_option maxRecDepth 20000 in
theorem wcX1_gather : coX1_gather ∈ tk_W := tk_mem 371 rfl rfl
theorem wiX1_init : Cond.instanceMethod yX1_init ∈ tk_W := tk_mem 84 (by decide +kernel) rfl
abbrev coX1_init : Cond := .code yX1_init cX1_init 1 none
set_option maxRecDepth 20000 in
theorem wcX1_init : coX1_init ∈ tk_W := tk_mem 85 rfl rfl
theorem wiX1_isKnown : Cond.instanceMethod yX1_isKnown ∈ tk_W := tk_mem 417 (by decide +kernel) rfl
theorem weX1_isKnown : Cond.selects RX1 yX1_isKnown yX1_isKnown ∈ tk_W := tk_mem 9 (by decide +kernel) rfl
abbrev coX1_isKnown : Cond := .code yX1_isKnown cX1_isKnown 2 (some .boolean)
set_option maxRecDepth 20000 in
theorem wcX1_isKnown : coX1_isKnown ∈ tk_W := tk_mem 418 rfl rfl
theorem wiX1_setWeight : Cond.instanceMethod yX1_setWeight ∈ tk_W := tk_mem 365 (by decide +kernel) rfl
theorem weX1_setWeight : Cond.selects RX1 yX1_setWeight yX1_setWeight ∈ tk_W := tk_mem 366 (by decide +kernel) rfl
abbrev coX1_setWeight : Cond := .code yX1_setWeight cX1_setWeight 3 none
set_option maxRecDepth 20000 in
theorem wcX1_setWeight : coX1_setWeight ∈ tk_W := tk_mem 367 rfl rfl
theorem wiX1_weightOf : Cond.instanceMethod yX1_weightOf ∈ tk_W := tk_mem 423 (by decide +kernel) rfl
theorem weX1_weightOf : Cond.selects RX1 yX1_weightOf yX1_weightOf ∈ tk_W := tk_mem 10 (by decide +kernel) rfl
abbrev coX1_weightOf : Cond := .code yX1_weightOf cX1_weightOf 4 (some .int)
set_option maxRecDepth 20000 in
theorem wcX1_weightOf : coX1_weightOf ∈ tk_W := tk_mem 424 rfl rfl
theorem wiX2_append : Cond.instanceMethod yX2_append ∈ tk_W := tk_mem 475 (by decide +kernel) rfl
theorem weX2_append : Cond.selects RX2 yX2_append yX2_append ∈ tk_W := tk_mem 476 (by decide +kernel) rfl
abbrev coX2_append : Cond := .code yX2_append cX2_append 3 none
set_option maxRecDepth 20000 in
theorem wcX2_append : coX2_append ∈ tk_W := tk_mem 477 rfl rfl
theorem wiX2_compare : Cond.instanceMethod yX2_compare ∈ tk_W := tk_mem 678 (by decide +kernel) rfl
theorem weX2_compare : Cond.selects RX2 yX2_compare yX2_compare ∈ tk_W := tk_mem 679 (by decide +kernel) rfl
abbrev coX2_compare : Cond := .code yX2_compare cX2_compare 3 (some .int)
set_option maxRecDepth 20000 in
theorem wcX2_compare : coX2_compare ∈ tk_W := tk_mem 680 rfl rfl
theorem wiX2_costBy : Cond.instanceMethod yX2_costBy ∈ tk_W := tk_mem 692 (by decide +kernel) rfl
theorem weX2_costBy : Cond.selects RX2 yX2_costBy yX2_costBy ∈ tk_W := tk_mem 18 (by decide +kernel) rfl
abbrev coX2_costBy : Cond := .code yX2_costBy cX2_costBy 6 (some .int)
set_option maxRecDepth 20000 in
theorem wcX2_costBy : coX2_costBy ∈ tk_W := tk_mem 693 rfl rfl
theorem wiX2_fillCosts : Cond.instanceMethod yX2_fillCosts ∈ tk_W := tk_mem 683 (by decide +kernel) rfl
theorem weX2_fillCosts : Cond.selects RX2 yX2_fillCosts yX2_fillCosts ∈ tk_W := tk_mem 16 (by decide +kernel) rfl
abbrev coX2_fillCosts : Cond := .code yX2_fillCosts cX2_fillCosts 3 none
set_option maxRecDepth 20000 in
theorem wcX2_fillCosts : coX2_fillCosts ∈ tk_W := tk_mem 684 rfl rfl
theorem wiX2_firstKind : Cond.instanceMethod yX2_firstKind ∈ tk_W := tk_mem 711 (by decide +kernel) rfl
theorem weX2_firstKind : Cond.selects RX2 yX2_firstKind yX2_firstKind ∈ tk_W := tk_mem 21 (by decide +kernel) rfl
abbrev coX2_firstKind : Cond := .code yX2_firstKind cX2_firstKind 5 (some .int)
set_option maxRecDepth 20000 in
theorem wcX2_firstKind : coX2_firstKind ∈ tk_W := tk_mem 712 rfl rfl
theorem wiX2_fits : Cond.instanceMethod yX2_fits ∈ tk_W := tk_mem 700 (by decide +kernel) rfl
theorem weX2_fits : Cond.selects RX2 yX2_fits yX2_fits ∈ tk_W := tk_mem 19 (by decide +kernel) rfl
abbrev coX2_fits : Cond := .code yX2_fits cX2_fits 4 (some .boolean)
set_option maxRecDepth 20000 in
theorem wcX2_fits : coX2_fits ∈ tk_W := tk_mem 701 rfl rfl
theorem wiX2_hasRoom : Cond.instanceMethod yX2_hasRoom ∈ tk_W := tk_mem 471 (by decide +kernel) rfl
theorem weX2_hasRoom : Cond.selects RX2 yX2_hasRoom yX2_hasRoom ∈ tk_W := tk_mem 472 (by decide +kernel) rfl
abbrev coX2_hasRoom : Cond := .code yX2_hasRoom cX2_hasRoom 1 (some .boolean)
set_option maxRecDepth 20000 in
theorem wcX2_hasRoom : coX2_hasRoom ∈ tk_W := tk_mem 473 rfl rfl
theorem wiX2_init : Cond.instanceMethod yX2_init ∈ tk_W := tk_mem 125 (by decide +kernel) rfl
abbrev coX2_init : Cond := .code yX2_init cX2_init 1 none
set_option maxRecDepth 20000 in
theorem wcX2_init : coX2_init ∈ tk_W := tk_mem 126 rfl rfl
theorem wiX2_leastCost : Cond.instanceMethod yX2_leastCost ∈ tk_W := tk_mem 687 (by decide +kernel) rfl
theorem weX2_leastCost : Cond.selects RX2 yX2_leastCost yX2_leastCost ∈ tk_W := tk_mem 17 (by decide +kernel) rfl
abbrev coX2_leastCost : Cond := .code yX2_leastCost cX2_leastCost 5 (some .int)
set_option maxRecDepth 20000 in
theorem wcX2_leastCost : coX2_leastCost ∈ tk_W := tk_mem 688 rfl rfl
theorem wiX2_writeMarks : Cond.instanceMethod yX2_writeMarks ∈ tk_W := tk_mem 707 (by decide +kernel) rfl
theorem weX2_writeMarks : Cond.selects RX2 yX2_writeMarks yX2_writeMarks ∈ tk_W := tk_mem 20 (by decide +kernel) rfl
abbrev coX2_writeMarks : Cond := .code yX2_writeMarks cX2_writeMarks 4 none
set_option maxRecDepth 20000 in
theorem wcX2_writeMarks : coX2_writeMarks ∈ tk_W := tk_mem 708 rfl rfl
theorem wtX3_firstUnlikeHours : Cond.static yX3_firstUnlikeHours ∈ tk_W := tk_mem 405 (by decide +kernel) rfl
abbrev coX3_firstUnlikeHours : Cond := .code yX3_firstUnlikeHours cX3_firstUnlikeHours 6 (some .int)
set_option maxRecDepth 20000 in
theorem wcX3_firstUnlikeHours : coX3_firstUnlikeHours ∈ tk_W := tk_mem 406 rfl rfl
theorem wiX3_gives : Cond.instanceMethod yX3_gives ∈ tk_W := tk_mem 377 (by decide +kernel) rfl
theorem weX3_gives : Cond.selects RX3 yX3_gives yX3_gives ∈ tk_W := tk_mem 378 (by decide +kernel) rfl
abbrev coX3_gives : Cond := .code yX3_gives cX3_gives 3 (some .boolean)
set_option maxRecDepth 20000 in
theorem wcX3_gives : coX3_gives ∈ tk_W := tk_mem 379 rfl rfl
theorem wiX3_init : Cond.instanceMethod yX3_init ∈ tk_W := tk_mem 70 (by decide +kernel) rfl
abbrev coX3_init : Cond := .code yX3_init cX3_init 1 none
set_option maxRecDepth 20000 in
theorem wcX3_init : coX3_init ∈ tk_W := tk_mem 71 rfl rfl
theorem wiX3_pairHours : Cond.instanceMethod yX3_pairHours ∈ tk_W := tk_mem 386 (by decide +kernel) rfl
theorem weX3_pairHours : Cond.selects RX3 yX3_pairHours yX3_pairHours ∈ tk_W := tk_mem 5 (by decide +kernel) rfl
abbrev coX3_pairHours : Cond := .code yX3_pairHours cX3_pairHours 3 (some .int)
set_option maxRecDepth 20000 in
theorem wcX3_pairHours : coX3_pairHours ∈ tk_W := tk_mem 387 rfl rfl
theorem wiX3_ringHours : Cond.instanceMethod yX3_ringHours ∈ tk_W := tk_mem 381 (by decide +kernel) rfl
theorem weX3_ringHours : Cond.selects RX3 yX3_ringHours yX3_ringHours ∈ tk_W := tk_mem 382 (by decide +kernel) rfl
abbrev coX3_ringHours : Cond := .code yX3_ringHours cX3_ringHours 4 (some .int)
set_option maxRecDepth 20000 in
theorem wcX3_ringHours : coX3_ringHours ∈ tk_W := tk_mem 383 rfl rfl
theorem wiX3_setTie : Cond.instanceMethod yX3_setTie ∈ tk_W := tk_mem 351 (by decide +kernel) rfl
theorem weX3_setTie : Cond.selects RX3 yX3_setTie yX3_setTie ∈ tk_W := tk_mem 352 (by decide +kernel) rfl
abbrev coX3_setTie : Cond := .code yX3_setTie cX3_setTie 5 none
set_option maxRecDepth 20000 in
theorem wcX3_setTie : coX3_setTie ∈ tk_W := tk_mem 353 rfl rfl
theorem wiX3_shared : Cond.instanceMethod yX3_shared ∈ tk_W := tk_mem 391 (by decide +kernel) rfl
theorem weX3_shared : Cond.selects RX3 yX3_shared yX3_shared ∈ tk_W := tk_mem 6 (by decide +kernel) rfl
abbrev coX3_shared : Cond := .code yX3_shared cX3_shared 3 (some .int)
set_option maxRecDepth 20000 in
theorem wcX3_shared : coX3_shared ∈ tk_W := tk_mem 392 rfl rfl
theorem wiX3_tripleHours : Cond.instanceMethod yX3_tripleHours ∈ tk_W := tk_mem 402 (by decide +kernel) rfl
theorem weX3_tripleHours : Cond.selects RX3 yX3_tripleHours yX3_tripleHours ∈ tk_W := tk_mem 7 (by decide +kernel) rfl
abbrev coX3_tripleHours : Cond := .code yX3_tripleHours cX3_tripleHours 4 (some .int)
set_option maxRecDepth 20000 in
theorem wcX3_tripleHours : coX3_tripleHours ∈ tk_W := tk_mem 403 rfl rfl
theorem wiX4_asked : Cond.instanceMethod yX4_asked ∈ tk_W := tk_mem 638 (by decide +kernel) rfl
theorem weX4_asked : Cond.selects RX4 yX4_asked yX4_asked ∈ tk_W := tk_mem 639 (by decide +kernel) rfl
abbrev coX4_asked : Cond := .code yX4_asked cX4_asked 5 (some .boolean)
set_option maxRecDepth 20000 in
theorem wcX4_asked : coX4_asked ∈ tk_W := tk_mem 640 rfl rfl
theorem wiX4_bar : Cond.instanceMethod yX4_bar ∈ tk_W := tk_mem 536 (by decide +kernel) rfl
theorem weX4_bar : Cond.selects RX4 yX4_bar yX4_bar ∈ tk_W := tk_mem 537 (by decide +kernel) rfl
abbrev coX4_bar : Cond := .code yX4_bar cX4_bar 7 (some .boolean)
set_option maxRecDepth 20000 in
theorem wcX4_bar : coX4_bar ∈ tk_W := tk_mem 538 rfl rfl
theorem wiX4_claim : Cond.instanceMethod yX4_claim ∈ tk_W := tk_mem 491 (by decide +kernel) rfl
theorem weX4_claim : Cond.selects RX4 yX4_claim yX4_claim ∈ tk_W := tk_mem 492 (by decide +kernel) rfl
abbrev coX4_claim : Cond := .code yX4_claim cX4_claim 6 (some .int)
set_option maxRecDepth 20000 in
theorem wcX4_claim : coX4_claim ∈ tk_W := tk_mem 493 rfl rfl
theorem wiX4_commonHours : Cond.instanceMethod yX4_commonHours ∈ tk_W := tk_mem 344 (by decide +kernel) rfl
theorem weX4_commonHours : Cond.selects RX4 yX4_commonHours yX4_commonHours ∈ tk_W := tk_mem 3 (by decide +kernel) rfl
abbrev coX4_commonHours : Cond := .code yX4_commonHours cX4_commonHours 4 (some .int)
set_option maxRecDepth 20000 in
theorem wcX4_commonHours : coX4_commonHours ∈ tk_W := tk_mem 345 rfl rfl
theorem wiX4_correct : Cond.instanceMethod yX4_correct ∈ tk_W := tk_mem 672 (by decide +kernel) rfl
theorem weX4_correct : Cond.selects RX4 yX4_correct yX4_correct ∈ tk_W := tk_mem 673 (by decide +kernel) rfl
abbrev coX4_correct : Cond := .code yX4_correct cX4_correct 3 (some .int)
set_option maxRecDepth 20000 in
theorem wcX4_correct : coX4_correct ∈ tk_W := tk_mem 674 rfl rfl
theorem wiX4_count : Cond.instanceMethod yX4_count ∈ tk_W := tk_mem 733 (by decide +kernel) rfl
theorem weX4_count : Cond.selects RX4 yX4_count yX4_count ∈ tk_W := tk_mem 734 (by decide +kernel) rfl
abbrev coX4_count : Cond := .code yX4_count cX4_count 2 (some .int)
set_option maxRecDepth 20000 in
theorem wcX4_count : coX4_count ∈ tk_W := tk_mem 735 rfl rfl
theorem wiX4_days : Cond.instanceMethod yX4_days ∈ tk_W := tk_mem 619 (by decide +kernel) rfl
theorem weX4_days : Cond.selects RX4 yX4_days yX4_days ∈ tk_W := tk_mem 620 (by decide +kernel) rfl
abbrev coX4_days : Cond := .code yX4_days cX4_days 2 (some .int)
set_option maxRecDepth 20000 in
theorem wcX4_days : coX4_days ∈ tk_W := tk_mem 621 rfl rfl
theorem wiX4_feed : Cond.instanceMethod yX4_feed ∈ tk_W := tk_mem 467 (by decide +kernel) rfl
theorem weX4_feed : Cond.selects RX4 yX4_feed yX4_feed ∈ tk_W := tk_mem 468 (by decide +kernel) rfl
abbrev coX4_feed : Cond := .code yX4_feed cX4_feed 6 (some .int)
set_option maxRecDepth 20000 in
theorem wcX4_feed : coX4_feed ∈ tk_W := tk_mem 469 rfl rfl
theorem wiX4_find : Cond.instanceMethod yX4_find ∈ tk_W := tk_mem 265 (by decide +kernel) rfl
theorem weX4_find : Cond.selects RX4 yX4_find yX4_find ∈ tk_W := tk_mem 1 (by decide +kernel) rfl
abbrev coX4_find : Cond := .code yX4_find cX4_find 3 (some (.object "TongueSwap$Learner"))
set_option maxRecDepth 20000 in
theorem wcX4_find : coX4_find ∈ tk_W := tk_mem 266 rfl rfl
theorem wiX4_gift : Cond.instanceMethod yX4_gift ∈ tk_W := tk_mem 574 (by decide +kernel) rfl
theorem weX4_gift : Cond.selects RX4 yX4_gift yX4_gift ∈ tk_W := tk_mem 575 (by decide +kernel) rfl
abbrev coX4_gift : Cond := .code yX4_gift cX4_gift 3 (some .int)
set_option maxRecDepth 20000 in
theorem wcX4_gift : coX4_gift ∈ tk_W := tk_mem 576 rfl rfl
theorem wtX4_hourAt : Cond.static yX4_hourAt ∈ tk_W := tk_mem 446 (by decide +kernel) rfl
abbrev coX4_hourAt : Cond := .code yX4_hourAt cX4_hourAt 2 (some .int)
set_option maxRecDepth 20000 in
theorem wcX4_hourAt : coX4_hourAt ∈ tk_W := tk_mem 447 rfl rfl
theorem wiX4_hours : Cond.instanceMethod yX4_hours ∈ tk_W := tk_mem 483 (by decide +kernel) rfl
theorem weX4_hours : Cond.selects RX4 yX4_hours yX4_hours ∈ tk_W := tk_mem 484 (by decide +kernel) rfl
abbrev coX4_hours : Cond := .code yX4_hours cX4_hours 5 (some .int)
set_option maxRecDepth 20000 in
theorem wcX4_hours : coX4_hours ∈ tk_W := tk_mem 485 rfl rfl
theorem wiX4_init : Cond.instanceMethod yX4_init ∈ tk_W := tk_mem 60 (by decide +kernel) rfl
abbrev coX4_init : Cond := .code yX4_init cX4_init 1 none
set_option maxRecDepth 20000 in
theorem wcX4_init : coX4_init ∈ tk_W := tk_mem 61 rfl rfl
theorem wiX4_learner : Cond.instanceMethod yX4_learner ∈ tk_W := tk_mem 189 (by decide +kernel) rfl
theorem weX4_learner : Cond.selects RX4 yX4_learner yX4_learner ∈ tk_W := tk_mem 190 (by decide +kernel) rfl
abbrev coX4_learner : Cond := .code yX4_learner cX4_learner 2 (some .int)
set_option maxRecDepth 20000 in
theorem wcX4_learner : coX4_learner ∈ tk_W := tk_mem 191 rfl rfl
theorem wiX4_level : Cond.instanceMethod yX4_level ∈ tk_W := tk_mem 565 (by decide +kernel) rfl
theorem weX4_level : Cond.selects RX4 yX4_level yX4_level ∈ tk_W := tk_mem 566 (by decide +kernel) rfl
abbrev coX4_level : Cond := .code yX4_level cX4_level 5 (some .int)
set_option maxRecDepth 20000 in
theorem wcX4_level : coX4_level ∈ tk_W := tk_mem 567 rfl rfl
theorem wiX4_lookAtTies : Cond.instanceMethod yX4_lookAtTies ∈ tk_W := tk_mem 261 (by decide +kernel) rfl
theorem weX4_lookAtTies : Cond.selects RX4 yX4_lookAtTies yX4_lookAtTies ∈ tk_W := tk_mem 0 (by decide +kernel) rfl
abbrev coX4_lookAtTies : Cond := .code yX4_lookAtTies cX4_lookAtTies 4 none
set_option maxRecDepth 20000 in
theorem wcX4_lookAtTies : coX4_lookAtTies ∈ tk_W := tk_mem 262 rfl rfl
theorem wtX4_lowestBit : Cond.static yX4_lowestBit ∈ tk_W := tk_mem 394 (by decide +kernel) rfl
abbrev coX4_lowestBit : Cond := .code yX4_lowestBit cX4_lowestBit 1 (some .int)
set_option maxRecDepth 20000 in
theorem wcX4_lowestBit : coX4_lowestBit ∈ tk_W := tk_mem 395 rfl rfl
theorem wiX4_mark : Cond.instanceMethod yX4_mark ∈ tk_W := tk_mem 717 (by decide +kernel) rfl
theorem weX4_mark : Cond.selects RX4 yX4_mark yX4_mark ∈ tk_W := tk_mem 718 (by decide +kernel) rfl
abbrev coX4_mark : Cond := .code yX4_mark cX4_mark 2 (some .int)
set_option maxRecDepth 20000 in
theorem wcX4_mark : coX4_mark ∈ tk_W := tk_mem 719 rfl rfl
theorem wiX4_marks : Cond.instanceMethod yX4_marks ∈ tk_W := tk_mem 725 (by decide +kernel) rfl
theorem weX4_marks : Cond.selects RX4 yX4_marks yX4_marks ∈ tk_W := tk_mem 726 (by decide +kernel) rfl
abbrev coX4_marks : Cond := .code yX4_marks cX4_marks 2 (some .int)
set_option maxRecDepth 20000 in
theorem wcX4_marks : coX4_marks ∈ tk_W := tk_mem 727 rfl rfl
theorem wiX4_meet : Cond.instanceMethod yX4_meet ∈ tk_W := tk_mem 581 (by decide +kernel) rfl
theorem weX4_meet : Cond.selects RX4 yX4_meet yX4_meet ∈ tk_W := tk_mem 582 (by decide +kernel) rfl
abbrev coX4_meet : Cond := .code yX4_meet cX4_meet 3 (some .int)
set_option maxRecDepth 20000 in
theorem wcX4_meet : coX4_meet ∈ tk_W := tk_mem 583 rfl rfl
theorem wiX4_membersOfTaken : Cond.instanceMethod yX4_membersOfTaken ∈ tk_W := tk_mem 450 (by decide +kernel) rfl
theorem weX4_membersOfTaken : Cond.selects RX4 yX4_membersOfTaken yX4_membersOfTaken ∈ tk_W := tk_mem 13 (by decide +kernel) rfl
abbrev coX4_membersOfTaken : Cond := .code yX4_membersOfTaken cX4_membersOfTaken 5 (some .int)
set_option maxRecDepth 20000 in
theorem wcX4_membersOfTaken : coX4_membersOfTaken ∈ tk_W := tk_mem 451 rfl rfl
theorem wiX4_missed : Cond.instanceMethod yX4_missed ∈ tk_W := tk_mem 605 (by decide +kernel) rfl
theorem weX4_missed : Cond.selects RX4 yX4_missed yX4_missed ∈ tk_W := tk_mem 606 (by decide +kernel) rfl
abbrev coX4_missed : Cond := .code yX4_missed cX4_missed 4 (some .boolean)
set_option maxRecDepth 20000 in
theorem wcX4_missed : coX4_missed ∈ tk_W := tk_mem 607 rfl rfl
theorem wiX4_next : Cond.instanceMethod yX4_next ∈ tk_W := tk_mem 661 (by decide +kernel) rfl
theorem weX4_next : Cond.selects RX4 yX4_next yX4_next ∈ tk_W := tk_mem 662 (by decide +kernel) rfl
abbrev coX4_next : Cond := .code yX4_next cX4_next 2 (some .int)
set_option maxRecDepth 20000 in
theorem wcX4_next : coX4_next ∈ tk_W := tk_mem 663 rfl rfl
theorem wiX4_noteWeek : Cond.instanceMethod yX4_noteWeek ∈ tk_W := tk_mem 454 (by decide +kernel) rfl
theorem weX4_noteWeek : Cond.selects RX4 yX4_noteWeek yX4_noteWeek ∈ tk_W := tk_mem 14 (by decide +kernel) rfl
abbrev coX4_noteWeek : Cond := .code yX4_noteWeek cX4_noteWeek 5 none
set_option maxRecDepth 20000 in
theorem wcX4_noteWeek : coX4_noteWeek ∈ tk_W := tk_mem 455 rfl rfl
theorem wtX4_requireTongue : Cond.static yX4_requireTongue ∈ tk_W := tk_mem 495 (by decide +kernel) rfl
abbrev coX4_requireTongue : Cond := .code yX4_requireTongue cX4_requireTongue 1 none
set_option maxRecDepth 20000 in
theorem wcX4_requireTongue : coX4_requireTongue ∈ tk_W := tk_mem 496 rfl rfl
theorem wiX4_requireTwo : Cond.instanceMethod yX4_requireTwo ∈ tk_W := tk_mem 541 (by decide +kernel) rfl
theorem weX4_requireTwo : Cond.selects RX4 yX4_requireTwo yX4_requireTwo ∈ tk_W := tk_mem 15 (by decide +kernel) rfl
abbrev coX4_requireTwo : Cond := .code yX4_requireTwo cX4_requireTwo 3 none
set_option maxRecDepth 20000 in
theorem wcX4_requireTwo : coX4_requireTwo ∈ tk_W := tk_mem 542 rfl rfl
theorem wtX4_requireWord : Cond.static yX4_requireWord ∈ tk_W := tk_mem 642 (by decide +kernel) rfl
abbrev coX4_requireWord : Cond := .code yX4_requireWord cX4_requireWord 2 none
set_option maxRecDepth 20000 in
theorem wcX4_requireWord : coX4_requireWord ∈ tk_W := tk_mem 643 rfl rfl
theorem wiX4_ring : Cond.instanceMethod yX4_ring ∈ tk_W := tk_mem 588 (by decide +kernel) rfl
theorem weX4_ring : Cond.selects RX4 yX4_ring yX4_ring ∈ tk_W := tk_mem 589 (by decide +kernel) rfl
abbrev coX4_ring : Cond := .code yX4_ring cX4_ring 7 (some .int)
set_option maxRecDepth 20000 in
theorem wcX4_ring : coX4_ring ∈ tk_W := tk_mem 590 rfl rfl
theorem wiX4_ringOf : Cond.instanceMethod yX4_ringOf ∈ tk_W := tk_mem 596 (by decide +kernel) rfl
theorem weX4_ringOf : Cond.selects RX4 yX4_ringOf yX4_ringOf ∈ tk_W := tk_mem 597 (by decide +kernel) rfl
abbrev coX4_ringOf : Cond := .code yX4_ringOf cX4_ringOf 3 (some .int)
set_option maxRecDepth 20000 in
theorem wcX4_ringOf : coX4_ringOf ∈ tk_W := tk_mem 598 rfl rfl
theorem wiX4_rings : Cond.instanceMethod yX4_rings ∈ tk_W := tk_mem 463 (by decide +kernel) rfl
theorem weX4_rings : Cond.selects RX4 yX4_rings yX4_rings ∈ tk_W := tk_mem 464 (by decide +kernel) rfl
abbrev coX4_rings : Cond := .code yX4_rings cX4_rings 1 (some .int)
set_option maxRecDepth 20000 in
theorem wcX4_rings : coX4_rings ∈ tk_W := tk_mem 465 rfl rfl
theorem wiX4_takeRing : Cond.instanceMethod yX4_takeRing ∈ tk_W := tk_mem 441 (by decide +kernel) rfl
theorem weX4_takeRing : Cond.selects RX4 yX4_takeRing yX4_takeRing ∈ tk_W := tk_mem 12 (by decide +kernel) rfl
abbrev coX4_takeRing : Cond := .code yX4_takeRing cX4_takeRing 7 none
set_option maxRecDepth 20000 in
theorem wcX4_takeRing : coX4_takeRing ∈ tk_W := tk_mem 442 rfl rfl
theorem wiX4_takeRings : Cond.instanceMethod yX4_takeRings ∈ tk_W := tk_mem 433 (by decide +kernel) rfl
theorem weX4_takeRings : Cond.selects RX4 yX4_takeRings yX4_takeRings ∈ tk_W := tk_mem 11 (by decide +kernel) rfl
abbrev coX4_takeRings : Cond := .code yX4_takeRings cX4_takeRings 5 (some .int)
set_option maxRecDepth 20000 in
theorem wcX4_takeRings : coX4_takeRings ∈ tk_W := tk_mem 434 rfl rfl
theorem wiX4_test : Cond.instanceMethod yX4_test ∈ tk_W := tk_mem 552 (by decide +kernel) rfl
theorem weX4_test : Cond.selects RX4 yX4_test yX4_test ∈ tk_W := tk_mem 553 (by decide +kernel) rfl
abbrev coX4_test : Cond := .code yX4_test cX4_test 6 (some .boolean)
set_option maxRecDepth 20000 in
theorem wcX4_test : coX4_test ∈ tk_W := tk_mem 554 rfl rfl
theorem wiX4_unwant : Cond.instanceMethod yX4_unwant ∈ tk_W := tk_mem 529 (by decide +kernel) rfl
theorem weX4_unwant : Cond.selects RX4 yX4_unwant yX4_unwant ∈ tk_W := tk_mem 530 (by decide +kernel) rfl
abbrev coX4_unwant : Cond := .code yX4_unwant cX4_unwant 4 (some .int)
set_option maxRecDepth 20000 in
theorem wcX4_unwant : coX4_unwant ∈ tk_W := tk_mem 531 rfl rfl
theorem wiX4_waited : Cond.instanceMethod yX4_waited ∈ tk_W := tk_mem 612 (by decide +kernel) rfl
theorem weX4_waited : Cond.selects RX4 yX4_waited yX4_waited ∈ tk_W := tk_mem 613 (by decide +kernel) rfl
abbrev coX4_waited : Cond := .code yX4_waited cX4_waited 2 (some .int)
set_option maxRecDepth 20000 in
theorem wcX4_waited : coX4_waited ∈ tk_W := tk_mem 614 rfl rfl
theorem wiX4_want : Cond.instanceMethod yX4_want ∈ tk_W := tk_mem 518 (by decide +kernel) rfl
theorem weX4_want : Cond.selects RX4 yX4_want yX4_want ∈ tk_W := tk_mem 519 (by decide +kernel) rfl
abbrev coX4_want : Cond := .code yX4_want cX4_want 4 (some .int)
set_option maxRecDepth 20000 in
theorem wcX4_want : coX4_want ∈ tk_W := tk_mem 520 rfl rfl
theorem wiX4_week : Cond.instanceMethod yX4_week ∈ tk_W := tk_mem 256 (by decide +kernel) rfl
theorem weX4_week : Cond.selects RX4 yX4_week yX4_week ∈ tk_W := tk_mem 257 (by decide +kernel) rfl
abbrev coX4_week : Cond := .code yX4_week cX4_week 4 (some .int)
set_option maxRecDepth 20000 in
theorem wcX4_week : coX4_week ∈ tk_W := tk_mem 258 rfl rfl
theorem wiX4_word : Cond.instanceMethod yX4_word ∈ tk_W := tk_mem 627 (by decide +kernel) rfl
theorem weX4_word : Cond.selects RX4 yX4_word yX4_word ∈ tk_W := tk_mem 628 (by decide +kernel) rfl
abbrev coX4_word : Cond := .code yX4_word cX4_word 2 (some .int)
set_option maxRecDepth 20000 in
theorem wcX4_word : coX4_word ∈ tk_W := tk_mem 629 rfl rfl
theorem wiX4_wordOf : Cond.instanceMethod yX4_wordOf ∈ tk_W := tk_mem 653 (by decide +kernel) rfl
theorem weX4_wordOf : Cond.selects RX4 yX4_wordOf yX4_wordOf ∈ tk_W := tk_mem 654 (by decide +kernel) rfl
abbrev coX4_wordOf : Cond := .code yX4_wordOf cX4_wordOf 5 (some .int)
set_option maxRecDepth 20000 in
theorem wcX4_wordOf : coX4_wordOf ∈ tk_W := tk_mem 655 rfl rfl
theorem wiX5_after : Cond.instanceMethod yX5_after ∈ tk_W := tk_mem 1038 (by decide +kernel) rfl
theorem weX5_after : Cond.selects RX5 yX5_after yX5_after ∈ tk_W := tk_mem 42 (by decide +kernel) rfl
abbrev coX5_after : Cond := .code yX5_after cX5_after 4 (some .int)
set_option maxRecDepth 20000 in
theorem wcX5_after : coX5_after ∈ tk_W := tk_mem 1039 rfl rfl
theorem wiX5_areTwo : Cond.instanceMethod yX5_areTwo ∈ tk_W := tk_mem 893 (by decide +kernel) rfl
theorem weX5_areTwo : Cond.selects RX5 yX5_areTwo yX5_areTwo ∈ tk_W := tk_mem 25 (by decide +kernel) rfl
abbrev coX5_areTwo : Cond := .code yX5_areTwo cX5_areTwo 3 (some .boolean)
set_option maxRecDepth 20000 in
theorem wcX5_areTwo : coX5_areTwo ∈ tk_W := tk_mem 894 rfl rfl
theorem wiX5_asked : Cond.instanceMethod yX5_asked ∈ tk_W := tk_mem 999 (by decide +kernel) rfl
theorem weX5_asked : Cond.selects RX5 yX5_asked yX5_asked ∈ tk_W := tk_mem 1000 (by decide +kernel) rfl
abbrev coX5_asked : Cond := .code yX5_asked cX5_asked 5 (some .boolean)
set_option maxRecDepth 20000 in
theorem wcX5_asked : coX5_asked ∈ tk_W := tk_mem 1001 rfl rfl
theorem wiX5_bar : Cond.instanceMethod yX5_bar ∈ tk_W := tk_mem 888 (by decide +kernel) rfl
theorem weX5_bar : Cond.selects RX5 yX5_bar yX5_bar ∈ tk_W := tk_mem 889 (by decide +kernel) rfl
abbrev coX5_bar : Cond := .code yX5_bar cX5_bar 5 (some .boolean)
set_option maxRecDepth 20000 in
theorem wcX5_bar : coX5_bar ∈ tk_W := tk_mem 890 rfl rfl
theorem wiX5_both : Cond.instanceMethod yX5_both ∈ tk_W := tk_mem 925 (by decide +kernel) rfl
theorem weX5_both : Cond.selects RX5 yX5_both yX5_both ∈ tk_W := tk_mem 29 (by decide +kernel) rfl
abbrev coX5_both : Cond := .code yX5_both cX5_both 3 (some .int)
set_option maxRecDepth 20000 in
theorem wcX5_both : coX5_both ∈ tk_W := tk_mem 926 rfl rfl
theorem wiX5_can : Cond.instanceMethod yX5_can ∈ tk_W := tk_mem 1028 (by decide +kernel) rfl
theorem weX5_can : Cond.selects RX5 yX5_can yX5_can ∈ tk_W := tk_mem 41 (by decide +kernel) rfl
abbrev coX5_can : Cond := .code yX5_can cX5_can 6 (some .boolean)
set_option maxRecDepth 20000 in
theorem wcX5_can : coX5_can ∈ tk_W := tk_mem 1029 rfl rfl
theorem wiX5_claim : Cond.instanceMethod yX5_claim ∈ tk_W := tk_mem 872 (by decide +kernel) rfl
theorem weX5_claim : Cond.selects RX5 yX5_claim yX5_claim ∈ tk_W := tk_mem 873 (by decide +kernel) rfl
abbrev coX5_claim : Cond := .code yX5_claim cX5_claim 5 (some .int)
set_option maxRecDepth 20000 in
theorem wcX5_claim : coX5_claim ∈ tk_W := tk_mem 874 rfl rfl
theorem wiX5_comes : Cond.instanceMethod yX5_comes ∈ tk_W := tk_mem 952 (by decide +kernel) rfl
theorem weX5_comes : Cond.selects RX5 yX5_comes yX5_comes ∈ tk_W := tk_mem 33 (by decide +kernel) rfl
abbrev coX5_comes : Cond := .code yX5_comes cX5_comes 4 none
set_option maxRecDepth 20000 in
theorem wcX5_comes : coX5_comes ∈ tk_W := tk_mem 953 rfl rfl
theorem wiX5_correct : Cond.instanceMethod yX5_correct ∈ tk_W := tk_mem 1023 (by decide +kernel) rfl
theorem weX5_correct : Cond.selects RX5 yX5_correct yX5_correct ∈ tk_W := tk_mem 1024 (by decide +kernel) rfl
abbrev coX5_correct : Cond := .code yX5_correct cX5_correct 7 (some .int)
set_option maxRecDepth 20000 in
theorem wcX5_correct : coX5_correct ∈ tk_W := tk_mem 1025 rfl rfl
theorem wtX5_costOf : Cond.static yX5_costOf ∈ tk_W := tk_mem 1041 (by decide +kernel) rfl
abbrev coX5_costOf : Cond := .code yX5_costOf cX5_costOf 1 (some .int)
set_option maxRecDepth 20000 in
theorem wcX5_costOf : coX5_costOf ∈ tk_W := tk_mem 1042 rfl rfl
theorem wiX5_count : Cond.instanceMethod yX5_count ∈ tk_W := tk_mem 1052 (by decide +kernel) rfl
theorem weX5_count : Cond.selects RX5 yX5_count yX5_count ∈ tk_W := tk_mem 1053 (by decide +kernel) rfl
abbrev coX5_count : Cond := .code yX5_count cX5_count 2 (some .int)
set_option maxRecDepth 20000 in
theorem wcX5_count : coX5_count ∈ tk_W := tk_mem 1054 rfl rfl
theorem wiX5_days : Cond.instanceMethod yX5_days ∈ tk_W := tk_mem 991 (by decide +kernel) rfl
theorem weX5_days : Cond.selects RX5 yX5_days yX5_days ∈ tk_W := tk_mem 992 (by decide +kernel) rfl
abbrev coX5_days : Cond := .code yX5_days cX5_days 2 (some .int)
set_option maxRecDepth 20000 in
theorem wcX5_days : coX5_days ∈ tk_W := tk_mem 993 rfl rfl
theorem wiX5_feed : Cond.instanceMethod yX5_feed ∈ tk_W := tk_mem 1015 (by decide +kernel) rfl
theorem weX5_feed : Cond.selects RX5 yX5_feed yX5_feed ∈ tk_W := tk_mem 1016 (by decide +kernel) rfl
abbrev coX5_feed : Cond := .code yX5_feed cX5_feed 6 (some .int)
set_option maxRecDepth 20000 in
theorem wcX5_feed : coX5_feed ∈ tk_W := tk_mem 1017 rfl rfl
theorem wiX5_finds : Cond.instanceMethod yX5_finds ∈ tk_W := tk_mem 948 (by decide +kernel) rfl
theorem weX5_finds : Cond.selects RX5 yX5_finds yX5_finds ∈ tk_W := tk_mem 32 (by decide +kernel) rfl
abbrev coX5_finds : Cond := .code yX5_finds cX5_finds 4 none
set_option maxRecDepth 20000 in
theorem wcX5_finds : coX5_finds ∈ tk_W := tk_mem 949 rfl rfl
theorem wiX5_gift : Cond.instanceMethod yX5_gift ∈ tk_W := tk_mem 912 (by decide +kernel) rfl
theorem weX5_gift : Cond.selects RX5 yX5_gift yX5_gift ∈ tk_W := tk_mem 913 (by decide +kernel) rfl
abbrev coX5_gift : Cond := .code yX5_gift cX5_gift 3 (some .int)
set_option maxRecDepth 20000 in
theorem wcX5_gift : coX5_gift ∈ tk_W := tk_mem 914 rfl rfl
theorem wiX5_giftOf : Cond.instanceMethod yX5_giftOf ∈ tk_W := tk_mem 917 (by decide +kernel) rfl
theorem weX5_giftOf : Cond.selects RX5 yX5_giftOf yX5_giftOf ∈ tk_W := tk_mem 28 (by decide +kernel) rfl
abbrev coX5_giftOf : Cond := .code yX5_giftOf cX5_giftOf 4 (some .int)
set_option maxRecDepth 20000 in
theorem wcX5_giftOf : coX5_giftOf ∈ tk_W := tk_mem 918 rfl rfl
theorem wiX5_has : Cond.instanceMethod yX5_has ∈ tk_W := tk_mem 909 (by decide +kernel) rfl
theorem weX5_has : Cond.selects RX5 yX5_has yX5_has ∈ tk_W := tk_mem 27 (by decide +kernel) rfl
abbrev coX5_has : Cond := .code yX5_has cX5_has 4 (some .boolean)
set_option maxRecDepth 20000 in
theorem wcX5_has : coX5_has ∈ tk_W := tk_mem 910 rfl rfl
theorem wtX5_hour : Cond.static yX5_hour ∈ tk_W := tk_mem 928 (by decide +kernel) rfl
abbrev coX5_hour : Cond := .code yX5_hour cX5_hour 4 (some .int)
set_option maxRecDepth 20000 in
theorem wcX5_hour : coX5_hour ∈ tk_W := tk_mem 929 rfl rfl
theorem wiX5_hours : Cond.instanceMethod yX5_hours ∈ tk_W := tk_mem 860 (by decide +kernel) rfl
theorem weX5_hours : Cond.selects RX5 yX5_hours yX5_hours ∈ tk_W := tk_mem 861 (by decide +kernel) rfl
abbrev coX5_hours : Cond := .code yX5_hours cX5_hours 4 (some .int)
set_option maxRecDepth 20000 in
theorem wcX5_hours : coX5_hours ∈ tk_W := tk_mem 862 rfl rfl
theorem wiX5_init : Cond.instanceMethod yX5_init ∈ tk_W := tk_mem 740 (by decide +kernel) rfl
abbrev coX5_init : Cond := .code yX5_init cX5_init 1 none
set_option maxRecDepth 20000 in
theorem wcX5_init : coX5_init ∈ tk_W := tk_mem 741 rfl rfl
theorem wiX5_isBarred : Cond.instanceMethod yX5_isBarred ∈ tk_W := tk_mem 897 (by decide +kernel) rfl
theorem weX5_isBarred : Cond.selects RX5 yX5_isBarred yX5_isBarred ∈ tk_W := tk_mem 26 (by decide +kernel) rfl
abbrev coX5_isBarred : Cond := .code yX5_isBarred cX5_isBarred 3 (some .boolean)
set_option maxRecDepth 20000 in
theorem wcX5_isBarred : coX5_isBarred ∈ tk_W := tk_mem 898 rfl rfl
theorem wiX5_isBest : Cond.instanceMethod yX5_isBest ∈ tk_W := tk_mem 964 (by decide +kernel) rfl
theorem weX5_isBest : Cond.selects RX5 yX5_isBest yX5_isBest ∈ tk_W := tk_mem 36 (by decide +kernel) rfl
abbrev coX5_isBest : Cond := .code yX5_isBest cX5_isBest 4 (some .boolean)
set_option maxRecDepth 20000 in
theorem wcX5_isBest : coX5_isBest ∈ tk_W := tk_mem 965 rfl rfl
theorem wiX5_isLearner : Cond.instanceMethod yX5_isLearner ∈ tk_W := tk_mem 865 (by decide +kernel) rfl
theorem weX5_isLearner : Cond.selects RX5 yX5_isLearner yX5_isLearner ∈ tk_W := tk_mem 22 (by decide +kernel) rfl
abbrev coX5_isLearner : Cond := .code yX5_isLearner cX5_isLearner 2 (some .boolean)
set_option maxRecDepth 20000 in
theorem wcX5_isLearner : coX5_isLearner ∈ tk_W := tk_mem 866 rfl rfl
theorem wiX5_isPair : Cond.instanceMethod yX5_isPair ∈ tk_W := tk_mem 936 (by decide +kernel) rfl
theorem weX5_isPair : Cond.selects RX5 yX5_isPair yX5_isPair ∈ tk_W := tk_mem 30 (by decide +kernel) rfl
abbrev coX5_isPair : Cond := .code yX5_isPair cX5_isPair 3 (some .boolean)
set_option maxRecDepth 20000 in
theorem wcX5_isPair : coX5_isPair ∈ tk_W := tk_mem 937 rfl rfl
theorem wiX5_isThree : Cond.instanceMethod yX5_isThree ∈ tk_W := tk_mem 940 (by decide +kernel) rfl
theorem weX5_isThree : Cond.selects RX5 yX5_isThree yX5_isThree ∈ tk_W := tk_mem 31 (by decide +kernel) rfl
abbrev coX5_isThree : Cond := .code yX5_isThree cX5_isThree 7 (some .boolean)
set_option maxRecDepth 20000 in
theorem wcX5_isThree : coX5_isThree ∈ tk_W := tk_mem 941 rfl rfl
theorem wiX5_isTongue : Cond.instanceMethod yX5_isTongue ∈ tk_W := tk_mem 877 (by decide +kernel) rfl
theorem weX5_isTongue : Cond.selects RX5 yX5_isTongue yX5_isTongue ∈ tk_W := tk_mem 24 (by decide +kernel) rfl
abbrev coX5_isTongue : Cond := .code yX5_isTongue cX5_isTongue 3 (some .boolean)
set_option maxRecDepth 20000 in
theorem wcX5_isTongue : coX5_isTongue ∈ tk_W := tk_mem 878 rfl rfl
theorem wiX5_isWord : Cond.instanceMethod yX5_isWord ∈ tk_W := tk_mem 1004 (by decide +kernel) rfl
theorem weX5_isWord : Cond.selects RX5 yX5_isWord yX5_isWord ∈ tk_W := tk_mem 39 (by decide +kernel) rfl
abbrev coX5_isWord : Cond := .code yX5_isWord cX5_isWord 3 (some .boolean)
set_option maxRecDepth 20000 in
theorem wcX5_isWord : coX5_isWord ∈ tk_W := tk_mem 1005 rfl rfl
theorem wiX5_lays : Cond.instanceMethod yX5_lays ∈ tk_W := tk_mem 1020 (by decide +kernel) rfl
theorem weX5_lays : Cond.selects RX5 yX5_lays yX5_lays ∈ tk_W := tk_mem 40 (by decide +kernel) rfl
abbrev coX5_lays : Cond := .code yX5_lays cX5_lays 3 none
set_option maxRecDepth 20000 in
theorem wcX5_lays : coX5_lays ∈ tk_W := tk_mem 1021 rfl rfl
theorem wiX5_learner : Cond.instanceMethod yX5_learner ∈ tk_W := tk_mem 855 (by decide +kernel) rfl
theorem weX5_learner : Cond.selects RX5 yX5_learner yX5_learner ∈ tk_W := tk_mem 856 (by decide +kernel) rfl
abbrev coX5_learner : Cond := .code yX5_learner cX5_learner 3 (some .int)
set_option maxRecDepth 20000 in
theorem wcX5_learner : coX5_learner ∈ tk_W := tk_mem 857 rfl rfl
theorem wiX5_least : Cond.instanceMethod yX5_least ∈ tk_W := tk_mem 960 (by decide +kernel) rfl
theorem weX5_least : Cond.selects RX5 yX5_least yX5_least ∈ tk_W := tk_mem 35 (by decide +kernel) rfl
abbrev coX5_least : Cond := .code yX5_least cX5_least 3 (some .int)
set_option maxRecDepth 20000 in
theorem wcX5_least : coX5_least ∈ tk_W := tk_mem 961 rfl rfl
theorem wiX5_level : Cond.instanceMethod yX5_level ∈ tk_W := tk_mem 904 (by decide +kernel) rfl
theorem weX5_level : Cond.selects RX5 yX5_level yX5_level ∈ tk_W := tk_mem 905 (by decide +kernel) rfl
abbrev coX5_level : Cond := .code yX5_level cX5_level 5 (some .int)
set_option maxRecDepth 20000 in
theorem wcX5_level : coX5_level ∈ tk_W := tk_mem 906 rfl rfl
theorem wiX5_mark : Cond.instanceMethod yX5_mark ∈ tk_W := tk_mem 1044 (by decide +kernel) rfl
theorem weX5_mark : Cond.selects RX5 yX5_mark yX5_mark ∈ tk_W := tk_mem 1045 (by decide +kernel) rfl
abbrev coX5_mark : Cond := .code yX5_mark cX5_mark 2 (some .int)
set_option maxRecDepth 20000 in
theorem wcX5_mark : coX5_mark ∈ tk_W := tk_mem 1046 rfl rfl
theorem wiX5_marks : Cond.instanceMethod yX5_marks ∈ tk_W := tk_mem 1048 (by decide +kernel) rfl
theorem weX5_marks : Cond.selects RX5 yX5_marks yX5_marks ∈ tk_W := tk_mem 1049 (by decide +kernel) rfl
abbrev coX5_marks : Cond := .code yX5_marks cX5_marks 4 (some .int)
set_option maxRecDepth 20000 in
theorem wcX5_marks : coX5_marks ∈ tk_W := tk_mem 1050 rfl rfl
theorem wtX5_meant : Cond.static yX5_meant ∈ tk_W := tk_mem 1034 (by decide +kernel) rfl
abbrev coX5_meant : Cond := .code yX5_meant cX5_meant 1 (some .int)
set_option maxRecDepth 20000 in
theorem wcX5_meant : coX5_meant ∈ tk_W := tk_mem 1035 rfl rfl
theorem wiX5_meet : Cond.instanceMethod yX5_meet ∈ tk_W := tk_mem 920 (by decide +kernel) rfl
theorem weX5_meet : Cond.selects RX5 yX5_meet yX5_meet ∈ tk_W := tk_mem 921 (by decide +kernel) rfl
abbrev coX5_meet : Cond := .code yX5_meet cX5_meet 3 (some .int)
set_option maxRecDepth 20000 in
theorem wcX5_meet : coX5_meet ∈ tk_W := tk_mem 922 rfl rfl
theorem wiX5_missed : Cond.instanceMethod yX5_missed ∈ tk_W := tk_mem 983 (by decide +kernel) rfl
theorem weX5_missed : Cond.selects RX5 yX5_missed yX5_missed ∈ tk_W := tk_mem 984 (by decide +kernel) rfl
abbrev coX5_missed : Cond := .code yX5_missed cX5_missed 4 (some .boolean)
set_option maxRecDepth 20000 in
theorem wcX5_missed : coX5_missed ∈ tk_W := tk_mem 985 rfl rfl
theorem wiX5_more : Cond.instanceMethod yX5_more ∈ tk_W := tk_mem 972 (by decide +kernel) rfl
theorem weX5_more : Cond.selects RX5 yX5_more yX5_more ∈ tk_W := tk_mem 38 (by decide +kernel) rfl
abbrev coX5_more : Cond := .code yX5_more cX5_more 3 none
set_option maxRecDepth 20000 in
theorem wcX5_more : coX5_more ∈ tk_W := tk_mem 973 rfl rfl
theorem wiX5_next : Cond.instanceMethod yX5_next ∈ tk_W := tk_mem 1011 (by decide +kernel) rfl
theorem weX5_next : Cond.selects RX5 yX5_next yX5_next ∈ tk_W := tk_mem 1012 (by decide +kernel) rfl
abbrev coX5_next : Cond := .code yX5_next cX5_next 4 (some .int)
set_option maxRecDepth 20000 in
theorem wcX5_next : coX5_next ∈ tk_W := tk_mem 1013 rfl rfl
theorem wiX5_right : Cond.instanceMethod yX5_right ∈ tk_W := tk_mem 869 (by decide +kernel) rfl
theorem weX5_right : Cond.selects RX5 yX5_right yX5_right ∈ tk_W := tk_mem 23 (by decide +kernel) rfl
abbrev coX5_right : Cond := .code yX5_right cX5_right 3 (some .boolean)
set_option maxRecDepth 20000 in
theorem wcX5_right : coX5_right ∈ tk_W := tk_mem 870 rfl rfl
theorem wiX5_ring : Cond.instanceMethod yX5_ring ∈ tk_W := tk_mem 931 (by decide +kernel) rfl
theorem weX5_ring : Cond.selects RX5 yX5_ring yX5_ring ∈ tk_W := tk_mem 932 (by decide +kernel) rfl
abbrev coX5_ring : Cond := .code yX5_ring cX5_ring 6 (some .int)
set_option maxRecDepth 20000 in
theorem wcX5_ring : coX5_ring ∈ tk_W := tk_mem 933 rfl rfl
theorem wiX5_ringOf : Cond.instanceMethod yX5_ringOf ∈ tk_W := tk_mem 979 (by decide +kernel) rfl
theorem weX5_ringOf : Cond.selects RX5 yX5_ringOf yX5_ringOf ∈ tk_W := tk_mem 980 (by decide +kernel) rfl
abbrev coX5_ringOf : Cond := .code yX5_ringOf cX5_ringOf 3 (some .int)
set_option maxRecDepth 20000 in
theorem wcX5_ringOf : coX5_ringOf ∈ tk_W := tk_mem 981 rfl rfl
theorem wiX5_rings : Cond.instanceMethod yX5_rings ∈ tk_W := tk_mem 975 (by decide +kernel) rfl
theorem weX5_rings : Cond.selects RX5 yX5_rings yX5_rings ∈ tk_W := tk_mem 976 (by decide +kernel) rfl
abbrev coX5_rings : Cond := .code yX5_rings cX5_rings 1 (some .int)
set_option maxRecDepth 20000 in
theorem wcX5_rings : coX5_rings ∈ tk_W := tk_mem 977 rfl rfl
theorem wtX5_said : Cond.static yX5_said ∈ tk_W := tk_mem 1031 (by decide +kernel) rfl
abbrev coX5_said : Cond := .code yX5_said cX5_said 1 (some .int)
set_option maxRecDepth 20000 in
theorem wcX5_said : coX5_said ∈ tk_W := tk_mem 1032 rfl rfl
theorem wiX5_serves : Cond.instanceMethod yX5_serves ∈ tk_W := tk_mem 956 (by decide +kernel) rfl
theorem weX5_serves : Cond.selects RX5 yX5_serves yX5_serves ∈ tk_W := tk_mem 34 (by decide +kernel) rfl
abbrev coX5_serves : Cond := .code yX5_serves cX5_serves 8 none
set_option maxRecDepth 20000 in
theorem wcX5_serves : coX5_serves ∈ tk_W := tk_mem 957 rfl rfl
theorem wiX5_taken : Cond.instanceMethod yX5_taken ∈ tk_W := tk_mem 968 (by decide +kernel) rfl
theorem weX5_taken : Cond.selects RX5 yX5_taken yX5_taken ∈ tk_W := tk_mem 37 (by decide +kernel) rfl
abbrev coX5_taken : Cond := .code yX5_taken cX5_taken 4 none
set_option maxRecDepth 20000 in
theorem wcX5_taken : coX5_taken ∈ tk_W := tk_mem 969 rfl rfl
theorem wiX5_test : Cond.instanceMethod yX5_test ∈ tk_W := tk_mem 900 (by decide +kernel) rfl
theorem weX5_test : Cond.selects RX5 yX5_test yX5_test ∈ tk_W := tk_mem 901 (by decide +kernel) rfl
abbrev coX5_test : Cond := .code yX5_test cX5_test 8 (some .boolean)
set_option maxRecDepth 20000 in
theorem wcX5_test : coX5_test ∈ tk_W := tk_mem 902 rfl rfl
theorem wiX5_thrown : Cond.instanceMethod yX5_thrown ∈ tk_W := tk_mem 851 (by decide +kernel) rfl
theorem weX5_thrown : Cond.selects RX5 yX5_thrown yX5_thrown ∈ tk_W := tk_mem 852 (by decide +kernel) rfl
abbrev coX5_thrown : Cond := .code yX5_thrown cX5_thrown 1 (some .int)
set_option maxRecDepth 20000 in
theorem wcX5_thrown : coX5_thrown ∈ tk_W := tk_mem 853 rfl rfl
theorem wiX5_unwant : Cond.instanceMethod yX5_unwant ∈ tk_W := tk_mem 884 (by decide +kernel) rfl
theorem weX5_unwant : Cond.selects RX5 yX5_unwant yX5_unwant ∈ tk_W := tk_mem 885 (by decide +kernel) rfl
abbrev coX5_unwant : Cond := .code yX5_unwant cX5_unwant 3 (some .int)
set_option maxRecDepth 20000 in
theorem wcX5_unwant : coX5_unwant ∈ tk_W := tk_mem 886 rfl rfl
theorem wiX5_waited : Cond.instanceMethod yX5_waited ∈ tk_W := tk_mem 987 (by decide +kernel) rfl
theorem weX5_waited : Cond.selects RX5 yX5_waited yX5_waited ∈ tk_W := tk_mem 988 (by decide +kernel) rfl
abbrev coX5_waited : Cond := .code yX5_waited cX5_waited 2 (some .int)
set_option maxRecDepth 20000 in
theorem wcX5_waited : coX5_waited ∈ tk_W := tk_mem 989 rfl rfl
theorem wiX5_want : Cond.instanceMethod yX5_want ∈ tk_W := tk_mem 880 (by decide +kernel) rfl
theorem weX5_want : Cond.selects RX5 yX5_want yX5_want ∈ tk_W := tk_mem 881 (by decide +kernel) rfl
abbrev coX5_want : Cond := .code yX5_want cX5_want 3 (some .int)
set_option maxRecDepth 20000 in
theorem wcX5_want : coX5_want ∈ tk_W := tk_mem 882 rfl rfl
theorem wiX5_week : Cond.instanceMethod yX5_week ∈ tk_W := tk_mem 943 (by decide +kernel) rfl
theorem weX5_week : Cond.selects RX5 yX5_week yX5_week ∈ tk_W := tk_mem 944 (by decide +kernel) rfl
abbrev coX5_week : Cond := .code yX5_week cX5_week 6 (some .int)
set_option maxRecDepth 20000 in
theorem wcX5_week : coX5_week ∈ tk_W := tk_mem 945 rfl rfl
theorem wiX5_word : Cond.instanceMethod yX5_word ∈ tk_W := tk_mem 995 (by decide +kernel) rfl
theorem weX5_word : Cond.selects RX5 yX5_word yX5_word ∈ tk_W := tk_mem 996 (by decide +kernel) rfl
abbrev coX5_word : Cond := .code yX5_word cX5_word 3 (some .int)
set_option maxRecDepth 20000 in
theorem wcX5_word : coX5_word ∈ tk_W := tk_mem 997 rfl rfl
theorem wiX5_wordOf : Cond.instanceMethod yX5_wordOf ∈ tk_W := tk_mem 1007 (by decide +kernel) rfl
theorem weX5_wordOf : Cond.selects RX5 yX5_wordOf yX5_wordOf ∈ tk_W := tk_mem 1008 (by decide +kernel) rfl
abbrev coX5_wordOf : Cond := .code yX5_wordOf cX5_wordOf 4 (some .int)
set_option maxRecDepth 20000 in
theorem wcX5_wordOf : coX5_wordOf ∈ tk_W := tk_mem 1009 rfl rfl
theorem wnX4 : Cond.initialized RX4 ∈ tk_W := tk_mem 44 (by decide +kernel) rfl
theorem wnX0 : Cond.initialized RX0 ∈ tk_W := tk_mem 49 (by decide +kernel) rfl
theorem wnX1 : Cond.initialized RX1 ∈ tk_W := tk_mem 46 (by decide +kernel) rfl
theorem wnX2 : Cond.initialized RX2 ∈ tk_W := tk_mem 47 (by decide +kernel) rfl
theorem wnX3 : Cond.initialized RX3 ∈ tk_W := tk_mem 45 (by decide +kernel) rfl
theorem wnL : Cond.initialized RL ∈ tk_W := tk_mem 43 (by decide +kernel) rfl
theorem wnX5 : Cond.initialized RX5 ∈ tk_W := tk_mem 48 (by decide +kernel) rfl
theorem wnJ6 : Cond.initialized RJ6 ∈ tk_W := tk_mem 56 (by decide +kernel) rfl
theorem wnJ9 : Cond.initialized RJ9 ∈ tk_W := tk_mem 55 (by decide +kernel) rfl
theorem wnMath : Cond.initialized "java/lang/Math" ∈ tk_W := tk_mem 55 (by decide +kernel) rfl
theorem wnNSE : Cond.initialized "java/util/NoSuchElementException" ∈ tk_W := tk_mem 53 (by decide +kernel) rfl
theorem wnIAE : Cond.initialized "java/lang/IllegalArgumentException" ∈ tk_W := tk_mem 54 (by decide +kernel) rfl
theorem wtMmax : Cond.static Lib.Math.max.name ∈ tk_W := tk_mem 362 (by decide +kernel) rfl
theorem wcMmax : Cond.code Lib.Math.max.name Lib.Math.max.code 2 (some .int) ∈ tk_W := tk_mem 363 (by decide +kernel) rfl
theorem wtMmin : Cond.static Lib.Math.min.name ∈ tk_W := tk_mem 359 (by decide +kernel) rfl
theorem wcMmin : Cond.code Lib.Math.min.name Lib.Math.min.code 2 (some .int) ∈ tk_W := tk_mem 360 (by decide +kernel) rfl
theorem wiOb : Cond.instanceMethod objectInit ∈ tk_W := tk_mem 63 (by decide +kernel) rfl
theorem wcOb : Cond.code objectInit ⟨#[0xb1]⟩ 1 none ∈ tk_W := tk_mem 64 (by decide +kernel) rfl
theorem wkX4_44 : Cond.constant RX4 44 16777215 ∈ tk_W := tk_mem 193 (by decide +kernel) rfl
theorem wkX1_75 : Cond.constant RX1 75 65535 ∈ tk_W := tk_mem 419 (by decide +kernel) rfl
theorem wkX2_42 : Cond.constant RX2 42 1000000 ∈ tk_W := tk_mem 689 (by decide +kernel) rfl
theorem wkX5_104 : Cond.constant RX5 104 16777215 ∈ tk_W := tk_mem 858 (by decide +kernel) rfl
theorem wkJ6_264 : Cond.constant RJ6 264 65536 ∈ tk_W := tk_mem 399 (by decide +kernel) rfl
theorem wkJ6_265 : Cond.constant RJ6 265 1431655765 ∈ tk_W := tk_mem 428 (by decide +kernel) rfl
theorem wkJ6_266 : Cond.constant RJ6 266 858993459 ∈ tk_W := tk_mem 429 (by decide +kernel) rfl
theorem wkJ6_267 : Cond.constant RJ6 267 252645135 ∈ tk_W := tk_mem 430 (by decide +kernel) rfl
theorem wlX4_9 : Cond.classLink RX4 9 RX0 ∈ tk_W := tk_mem 65 (by decide +kernel) rfl
theorem wlX4_15 : Cond.classLink RX4 15 RX3 ∈ tk_W := tk_mem 67 (by decide +kernel) rfl
theorem wlX4_22 : Cond.classLink RX4 22 RX1 ∈ tk_W := tk_mem 81 (by decide +kernel) rfl
theorem wlX4_29 : Cond.classLink RX4 29 RX2 ∈ tk_W := tk_mem 122 (by decide +kernel) rfl
theorem wlX4_58 : Cond.classLink RX4 58 "java/lang/IllegalArgumentException" ∈ tk_W := tk_mem 498 (by decide +kernel) rfl
theorem wlX4_108 : Cond.classLink RX4 108 "java/util/NoSuchElementException" ∈ tk_W := tk_mem 267 (by decide +kernel) rfl
theorem wlL_8 : Cond.classLink RL 8 RX4 ∈ tk_W := tk_mem 57 (by decide +kernel) rfl
theorem wlL_13 : Cond.classLink RL 13 "java/util/NoSuchElementException" ∈ tk_W := tk_mem 481 (by decide +kernel) rfl
theorem wlL_19 : Cond.classLink RL 19 "java/lang/IllegalArgumentException" ∈ tk_W := tk_mem 489 (by decide +kernel) rfl
theorem wlL_87 : Cond.classLink RL 87 RX5 ∈ tk_W := tk_mem 737 (by decide +kernel) rfl
theorem wbX4 : Cond.instantiable RX4 10 ∈ tk_W := tk_mem 58 (by decide +kernel) rfl
theorem wbX0 : Cond.instantiable RX0 15 ∈ tk_W := tk_mem 192 (by decide +kernel) rfl
theorem wbX1 : Cond.instantiable RX1 10 ∈ tk_W := tk_mem 82 (by decide +kernel) rfl
theorem wbX2 : Cond.instantiable RX2 8 ∈ tk_W := tk_mem 123 (by decide +kernel) rfl
theorem wbX3 : Cond.instantiable RX3 2 ∈ tk_W := tk_mem 68 (by decide +kernel) rfl
theorem wbX5 : Cond.instantiable RX5 35 ∈ tk_W := tk_mem 738 (by decide +kernel) rfl
theorem waint : Cond.arrayClass .int ∈ tk_W := tk_mem 80 (by decide +kernel) rfl
theorem walong : Cond.arrayClass .long ∈ tk_W := tk_mem 121 (by decide +kernel) rfl
theorem waboolean : Cond.arrayClass .boolean ∈ tk_W := tk_mem 849 (by decide +kernel) rfl
theorem inX0 : ∀ w ∈ u_ws RX0 TX0 15, w ∈ tk_W := fun w h => List.mem_filter.mpr ⟨(by decide +kernel : ∀ w ∈ u_ws RX0 TX0 15, w ∈ lw_tbl) w h, List.all_eq_true.mp (by decide +kernel : (u_ws RX0 TX0 15).all goodWord = true) w h⟩
theorem inX1 : ∀ w ∈ u_ws RX1 TX1 10, w ∈ tk_W := fun w h => List.mem_filter.mpr ⟨(by decide +kernel : ∀ w ∈ u_ws RX1 TX1 10, w ∈ lw_tbl) w h, List.all_eq_true.mp (by decide +kernel : (u_ws RX1 TX1 10).all goodWord = true) w h⟩
theorem inX2 : ∀ w ∈ u_ws RX2 TX2 8, w ∈ tk_W := fun w h => List.mem_filter.mpr ⟨(by decide +kernel : ∀ w ∈ u_ws RX2 TX2 8, w ∈ lw_tbl) w h, List.all_eq_true.mp (by decide +kernel : (u_ws RX2 TX2 8).all goodWord = true) w h⟩
theorem inX3 : ∀ w ∈ u_ws RX3 TX3 2, w ∈ tk_W := fun w h => List.mem_filter.mpr ⟨(by decide +kernel : ∀ w ∈ u_ws RX3 TX3 2, w ∈ lw_tbl) w h, List.all_eq_true.mp (by decide +kernel : (u_ws RX3 TX3 2).all goodWord = true) w h⟩
theorem inX4 : ∀ w ∈ u_ws RX4 TX4 10, w ∈ tk_W := fun w h => List.mem_filter.mpr ⟨(by decide +kernel : ∀ w ∈ u_ws RX4 TX4 10, w ∈ lw_tbl) w h, List.all_eq_true.mp (by decide +kernel : (u_ws RX4 TX4 10).all goodWord = true) w h⟩
theorem inX5 : ∀ w ∈ u_ws RX5 TX5 35, w ∈ tk_W := fun w h => List.mem_filter.mpr ⟨(by decide +kernel : ∀ w ∈ u_ws RX5 TX5 35, w ∈ lw_tbl) w h, List.all_eq_true.mp (by decide +kernel : (u_ws RX5 TX5 35).all goodWord = true) w h⟩

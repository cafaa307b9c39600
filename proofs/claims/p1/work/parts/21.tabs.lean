def mtL_0 : List Mi := [MJ13_bitCount_95d88, MJ13_divideUnsigned_f86c9, MJ13_remainderUnsigned_f86c9, MJ6_bitCount_0f7a4, MJ7_fill_031fb, MJ7_fill_53178, MJ7_fill_fda19, MJ7_rangeCheck_23922, MX0_arithmetic, MX0_difference, MX0_holds, MX0_logic, MX0_note, MX0_noteBit, MX0_noteWide, MX0_shift, MX0_shiftOnce, MX0_shownBy, MX0_stepBy, MX0_sum, MX0_turnOnce, MX10_add, MX10_addBytes, MX10_clear, MX10_fold, MX10_has, MX10_joinCases, MX10_linkChoice, MX10_linkPart, MX10_turnBytes, MX11_addNumber, MX11_arm, MX11_begin, MX11_check, MX11_count, MX11_end, MX11_event, MX11_fault, MX11_feed, MX11_get]
def mtL_1 : List Mi := [MX11_grammar, MX11_image, MX11_load, MX11_match, MX11_noteFault, MX11_peak, MX11_place, MX11_program, MX11_put, MX11_rule, MX11_run, MX11_set, MX11_store, MX11_subject, MX14_add, MX14_add_, MX14_added, MX14_address, MX14_areAll, MX14_areNames, MX14_areSets, MX14_arm, MX14_back, MX14_begin, MX14_beginsBundle, MX14_beginsName, MX14_beginsPrimary, MX14_beginsWith, MX14_bits, MX14_byBytes, MX14_byNumber, MX14_byResult, MX14_byteAt, MX14_byteOf, MX14_byteTo, MX14_charClass, MX14_check, MX14_checked, MX14_choice, MX14_comes]
def mtL_2 : List Mi := [MX14_compile, MX14_count, MX14_dataAt, MX14_dataPut, MX14_decode, MX14_decodeByThree, MX14_decodeLong, MX14_decodeMoves, MX14_decodeRest, MX14_decodeShort, MX14_decodeSum, MX14_doesIt, MX14_done, MX14_emit, MX14_emitAnd, MX14_emitChoice, MX14_emitMaybe, MX14_emitNot, MX14_emitStar, MX14_end, MX14_ends, MX14_entry, MX14_entryNumber, MX14_escaped, MX14_event, MX14_fault, MX14_fault_, MX14_feed, MX14_findGoals, MX14_firsts, MX14_fits, MX14_flag, MX14_forget, MX14_four, MX14_get, MX14_go, MX14_goByNumber, MX14_goIf, MX14_goes, MX14_hasTarget]
def mtL_3 : List Mi := [MX14_here, MX14_hex, MX14_holds, MX14_image, MX14_image_, MX14_inBounds, MX14_inSet, MX14_is, MX14_isAnd, MX14_isAny, MX14_isByte, MX14_isConfined, MX14_isData, MX14_isIn, MX14_isInstruction, MX14_isJump, MX14_isRegister, MX14_isSet, MX14_isThere, MX14_item, MX14_judge, MX14_jumpsBecome, MX14_jumpsOn, MX14_keep, MX14_labelFail, MX14_labelNo, MX14_labelOver, MX14_lay, MX14_literal, MX14_load, MX14_load_, MX14_lookAtNames, MX14_lookAtParts, MX14_lookAtRules, MX14_malformed, MX14_many, MX14_mark, MX14_match, MX14_mixes, MX14_move]
def mtL_4 : List Mi := [MX14_moveNumber, MX14_name, MX14_need, MX14_never, MX14_nextByte, MX14_note, MX14_nullable, MX14_number, MX14_on, MX14_oneLess, MX14_oneMore, MX14_only, MX14_opens, MX14_out, MX14_out_, MX14_part, MX14_peak, MX14_peek, MX14_piece, MX14_place, MX14_plain, MX14_prefix, MX14_primary, MX14_products, MX14_program, MX14_pushes, MX14_put, MX14_read, MX14_readFour, MX14_readM, MX14_readOne, MX14_reason, MX14_rule, MX14_ruleOf, MX14_run, MX14_runs, MX14_sequence, MX14_set, MX14_sets, MX14_shifted]
def mtL_5 : List Mi := [MX14_sizeOf, MX14_skip, MX14_steps, MX14_stops, MX14_store, MX14_subject, MX14_suffix, MX14_summed, MX14_sure, MX14_taken, MX14_test, MX14_testUnlessNullable, MX14_text, MX14_toM, MX14_translate, MX14_translateMore, MX14_twoFlags, MX14_up, MX14_valueOfM, MX14_wants, MX14_wide, MX14_write, MX14_writes, MX1_keepRoom, MX1_layAll, MX1_layBackCommit, MX1_layByte, MX1_layCall, MX1_layChoice, MX1_layControl, MX1_layCopy, MX1_layEnd, MX1_layEntry, MX1_layEvent, MX1_layFail, MX1_layGo, MX1_layIn, MX1_layJump, MX1_layLeap, MX1_layLimit]
def mtL_6 : List Mi := [MX1_layLoadNumber, MX1_layMemory, MX1_layNext, MX1_layNumber, MX1_layOne, MX1_layPartial, MX1_layReturn, MX1_layTaking, MX1_layWord, MX1_makeCode, MX1_markAligned, MX1_second, MX1_widenJumps, MX2_addBit, MX2_dropAll, MX2_dropM, MX2_findGoals, MX2_findRefused, MX2_forget, MX2_hasBit, MX2_isConfined, MX2_isInstruction, MX2_jumpsByNumber, MX2_keepMask, MX2_leadsWell, MX2_look, MX2_noteChain, MX2_noteMasks, MX2_reasonAt, MX3_await, MX3_coreOf, MX3_followJumps, MX3_isDirect, MX3_isSet, MX3_makeProgram, MX3_measure, MX3_numberSets, MX3_placeRules, MX3_replaceCalls, MX3_replaceJumps]
def mtL_7 : List Mi := [MX3_setNumber, MX3_shorten, MX3_sizeOf, MX3_starSize, MX3_trySize, MX3_write, MX3_writeAnd, MX3_writeByBytes, MX3_writeChoice, MX3_writeNode, MX3_writeNot, MX3_writeOption, MX3_writeStar, MX3_writeTry, MX3_writeWaiting, MX4_decode, MX4_decodeArithmetic, MX4_decodeM, MX4_decodeMoves, MX4_decodeOthers, MX4_decodeThird, MX4_decodeTwo, MX4_lastKind, MX4_nextByte, MX4_nextWord, MX4_refuseIf, MX4_unaryKind, MX5_bindNames, MX5_blame, MX5_factsInRow, MX5_factsOf, MX5_findBegins, MX5_findEndless, MX5_findFacts, MX5_findFirsts, MX5_findKind, MX5_findLeft, MX5_findRule, MX5_findSecondNames, MX5_goesRight]
def mtL_8 : List Mi := [MX5_joinFirst, MX5_sameBytes, MX5_takeFirsts, MX6_note, MX6_noteEvents, MX7_calculate, MX7_calculateLong, MX7_clearData, MX7_divide, MX7_divideSigned, MX7_fillData, MX7_fillSets, MX7_findAddress, MX7_goTo, MX7_holdsWord, MX7_jump, MX7_makeSteps, MX7_move, MX7_pop, MX7_prepare, MX7_push, MX7_readByteRegister, MX7_readM, MX7_readWord, MX7_sumOfM, MX7_takeCode, MX7_tryStep, MX7_writeByteRegister, MX7_writeLong, MX7_writeM, MX7_writeUnlessCompared, MX7_writeWord, MX8_usesSet, MX9_addPlain, MX9_hexValue, MX9_readByte, MX9_readChoice, MX9_readClass, MX9_readEscape, MX9_readLiteral]
def mtL_9 : List Mi := [MX9_readLoop, MX9_readName, MX9_readPrefix, MX9_readPrimary, MX9_readRepeat, MX9_readRule, MX9_readSequence, MX9_readSuffix, MX9_readText, MX9_refuse, MX9_sign, MX9_skipBlanks, MX9_startsName, MX9_startsPrefix, MX9_takeSign]
def mtL : List Mi := mtL_0 ++ mtL_1 ++ mtL_2 ++ mtL_3 ++ mtL_4 ++ mtL_5 ++ mtL_6 ++ mtL_7 ++ mtL_8 ++ mtL_9
def mt (i : Nat) : Mi := mtL.getD i MJ13_bitCount_95d88
def rx (n : Nat) : String := match n with
  | 0 => RX0
  | 1 => RX1
  | 2 => RX2
  | 3 => RX3
  | 4 => RX4
  | 5 => RX5
  | 6 => RX6
  | 7 => RX7
  | 8 => RX8
  | 9 => RX9
  | 10 => RX10
  | 11 => RX11
  | 12 => RX12
  | 13 => RX13
  | 14 => RX14
  | 15 => RJ10
  | 16 => RJ13
  | 17 => RJ6
  | 18 => RJ7
  | 19 => RJ9
  | 20 => RJx145de
  | _ => RL
def FTb_0 : List (Nat × Nat × Nat) := [(7, 0, 0)]
set_option maxRecDepth 100000 in
theorem FTb_0_0 : ∀ e ∈ ([(7, 0, 0)] : List (Nat × Nat × Nat)), fok (rx 0) e.1 e.2.1 e.2.2 := (List.forall_mem_cons.mpr ⟨f_X0_7, (fun _ h => absurd h List.not_mem_nil)⟩)
set_option maxRecDepth 100000 in
theorem FTb_0_ok : ∀ e ∈ FTb_0, fok (rx 0) e.1 e.2.1 e.2.2 := by
  intro e he
  have h : FTb_0 = ([(7, 0, 0)] : List (Nat × Nat × Nat)) := rfl
  rw [h] at he
  exact FTb_0_0 e he
def FTb_1 : List (Nat × Nat × Nat) := [(14, 1, 0), (18, 1, 2), (21, 1, 3), (24, 1, 4), (28, 1, 5), (31, 1, 6), (35, 1, 7), (38, 1, 8), (41, 1, 9), (45, 1, 1), (66, 8, 12), (69, 8, 10), (72, 8, 0), (75, 8, 2), (78, 8, 3), (100, 8, 1)]
set_option maxRecDepth 100000 in
theorem FTb_1_0 : ∀ e ∈ ([(14, 1, 0), (18, 1, 2), (21, 1, 3), (24, 1, 4), (28, 1, 5), (31, 1, 6), (35, 1, 7), (38, 1, 8), (41, 1, 9), (45, 1, 1), (66, 8, 12), (69, 8, 10), (72, 8, 0), (75, 8, 2), (78, 8, 3), (100, 8, 1)] : List (Nat × Nat × Nat)), fok (rx 1) e.1 e.2.1 e.2.2 := (List.forall_mem_cons.mpr ⟨f_X1_14, (List.forall_mem_cons.mpr ⟨f_X1_18, (List.forall_mem_cons.mpr ⟨f_X1_21, (List.forall_mem_cons.mpr ⟨f_X1_24, (List.forall_mem_cons.mpr ⟨f_X1_28, (List.forall_mem_cons.mpr ⟨f_X1_31, (List.forall_mem_cons.mpr ⟨f_X1_35, (List.forall_mem_cons.mpr ⟨f_X1_38, (List.forall_mem_cons.mpr ⟨f_X1_41, (List.forall_mem_cons.mpr ⟨f_X1_45, (List.forall_mem_cons.mpr ⟨f_X1_66, (List.forall_mem_cons.mpr ⟨f_X1_69, (List.forall_mem_cons.mpr ⟨f_X1_72, (List.forall_mem_cons.mpr ⟨f_X1_75, (List.forall_mem_cons.mpr ⟨f_X1_78, (List.forall_mem_cons.mpr ⟨f_X1_100, (fun _ h => absurd h List.not_mem_nil)⟩)⟩)⟩)⟩)⟩)⟩)⟩)⟩)⟩)⟩)⟩)⟩)⟩)⟩)⟩)⟩)
set_option maxRecDepth 100000 in
theorem FTb_1_ok : ∀ e ∈ FTb_1, fok (rx 1) e.1 e.2.1 e.2.2 := by
  intro e he
  have h : FTb_1 = ([(14, 1, 0), (18, 1, 2), (21, 1, 3), (24, 1, 4), (28, 1, 5), (31, 1, 6), (35, 1, 7), (38, 1, 8), (41, 1, 9), (45, 1, 1), (66, 8, 12), (69, 8, 10), (72, 8, 0), (75, 8, 2), (78, 8, 3), (100, 8, 1)] : List (Nat × Nat × Nat)) := rfl
  rw [h] at he
  exact FTb_1_0 e he
def FTb_2 : List (Nat × Nat × Nat) := [(11, 2, 0), (17, 2, 1), (20, 2, 2), (28, 2, 3), (32, 2, 4), (36, 2, 5), (40, 2, 6), (43, 2, 7), (46, 2, 8), (50, 2, 9), (53, 2, 10), (69, 4, 3), (72, 4, 15), (92, 4, 13), (119, 4, 6), (125, 4, 8), (131, 4, 16), (134, 4, 12), (138, 4, 9), (142, 4, 14), (146, 4, 4), (149, 4, 5), (159, 4, 7)]
set_option maxRecDepth 100000 in
theorem FTb_2_0 : ∀ e ∈ ([(11, 2, 0), (17, 2, 1), (20, 2, 2), (28, 2, 3), (32, 2, 4), (36, 2, 5), (40, 2, 6), (43, 2, 7), (46, 2, 8), (50, 2, 9), (53, 2, 10), (69, 4, 3), (72, 4, 15), (92, 4, 13), (119, 4, 6), (125, 4, 8), (131, 4, 16), (134, 4, 12), (138, 4, 9), (142, 4, 14), (146, 4, 4), (149, 4, 5), (159, 4, 7)] : List (Nat × Nat × Nat)), fok (rx 2) e.1 e.2.1 e.2.2 := (List.forall_mem_cons.mpr ⟨f_X2_11, (List.forall_mem_cons.mpr ⟨f_X2_17, (List.forall_mem_cons.mpr ⟨f_X2_20, (List.forall_mem_cons.mpr ⟨f_X2_28, (List.forall_mem_cons.mpr ⟨f_X2_32, (List.forall_mem_cons.mpr ⟨f_X2_36, (List.forall_mem_cons.mpr ⟨f_X2_40, (List.forall_mem_cons.mpr ⟨f_X2_43, (List.forall_mem_cons.mpr ⟨f_X2_46, (List.forall_mem_cons.mpr ⟨f_X2_50, (List.forall_mem_cons.mpr ⟨f_X2_53, (List.forall_mem_cons.mpr ⟨f_X2_69, (List.forall_mem_cons.mpr ⟨f_X2_72, (List.forall_mem_cons.mpr ⟨f_X2_92, (List.forall_mem_cons.mpr ⟨f_X2_119, (List.forall_mem_cons.mpr ⟨f_X2_125, (List.forall_mem_cons.mpr ⟨f_X2_131, (List.forall_mem_cons.mpr ⟨f_X2_134, (List.forall_mem_cons.mpr ⟨f_X2_138, (List.forall_mem_cons.mpr ⟨f_X2_142, (List.forall_mem_cons.mpr ⟨f_X2_146, (List.forall_mem_cons.mpr ⟨f_X2_149, (List.forall_mem_cons.mpr ⟨f_X2_159, (fun _ h => absurd h List.not_mem_nil)⟩)⟩)⟩)⟩)⟩)⟩)⟩)⟩)⟩)⟩)⟩)⟩)⟩)⟩)⟩)⟩)⟩)⟩)⟩)⟩)⟩)⟩)⟩)
set_option maxRecDepth 100000 in
theorem FTb_2_ok : ∀ e ∈ FTb_2, fok (rx 2) e.1 e.2.1 e.2.2 := by
  intro e he
  have h : FTb_2 = ([(11, 2, 0), (17, 2, 1), (20, 2, 2), (28, 2, 3), (32, 2, 4), (36, 2, 5), (40, 2, 6), (43, 2, 7), (46, 2, 8), (50, 2, 9), (53, 2, 10), (69, 4, 3), (72, 4, 15), (92, 4, 13), (119, 4, 6), (125, 4, 8), (131, 4, 16), (134, 4, 12), (138, 4, 9), (142, 4, 14), (146, 4, 4), (149, 4, 5), (159, 4, 7)] : List (Nat × Nat × Nat)) := rfl
  rw [h] at he
  exact FTb_2_0 e he
def FTb_3 : List (Nat × Nat × Nat) := [(13, 3, 2), (19, 3, 3), (22, 3, 4), (25, 3, 5), (28, 3, 6), (32, 3, 0), (36, 3, 1), (47, 8, 7), (54, 10, 12), (57, 10, 10), (73, 10, 11), (89, 10, 0), (93, 10, 1), (100, 10, 2), (114, 10, 6), (117, 8, 5), (120, 10, 5), (123, 8, 6), (132, 8, 8), (133, 10, 13), (136, 8, 9), (137, 8, 10), (140, 8, 0), (143, 8, 1), (146, 8, 2), (189, 8, 11), (198, 8, 4)]
set_option maxRecDepth 100000 in
theorem FTb_3_0 : ∀ e ∈ ([(13, 3, 2), (19, 3, 3), (22, 3, 4), (25, 3, 5), (28, 3, 6), (32, 3, 0), (36, 3, 1), (47, 8, 7), (54, 10, 12), (57, 10, 10), (73, 10, 11), (89, 10, 0), (93, 10, 1), (100, 10, 2), (114, 10, 6), (117, 8, 5), (120, 10, 5), (123, 8, 6), (132, 8, 8), (133, 10, 13), (136, 8, 9), (137, 8, 10), (140, 8, 0), (143, 8, 1), (146, 8, 2), (189, 8, 11), (198, 8, 4)] : List (Nat × Nat × Nat)), fok (rx 3) e.1 e.2.1 e.2.2 := (List.forall_mem_cons.mpr ⟨f_X3_13, (List.forall_mem_cons.mpr ⟨f_X3_19, (List.forall_mem_cons.mpr ⟨f_X3_22, (List.forall_mem_cons.mpr ⟨f_X3_25, (List.forall_mem_cons.mpr ⟨f_X3_28, (List.forall_mem_cons.mpr ⟨f_X3_32, (List.forall_mem_cons.mpr ⟨f_X3_36, (List.forall_mem_cons.mpr ⟨f_X3_47, (List.forall_mem_cons.mpr ⟨f_X3_54, (List.forall_mem_cons.mpr ⟨f_X3_57, (List.forall_mem_cons.mpr ⟨f_X3_73, (List.forall_mem_cons.mpr ⟨f_X3_89, (List.forall_mem_cons.mpr ⟨f_X3_93, (List.forall_mem_cons.mpr ⟨f_X3_100, (List.forall_mem_cons.mpr ⟨f_X3_114, (List.forall_mem_cons.mpr ⟨f_X3_117, (List.forall_mem_cons.mpr ⟨f_X3_120, (List.forall_mem_cons.mpr ⟨f_X3_123, (List.forall_mem_cons.mpr ⟨f_X3_132, (List.forall_mem_cons.mpr ⟨f_X3_133, (List.forall_mem_cons.mpr ⟨f_X3_136, (List.forall_mem_cons.mpr ⟨f_X3_137, (List.forall_mem_cons.mpr ⟨f_X3_140, (List.forall_mem_cons.mpr ⟨f_X3_143, (List.forall_mem_cons.mpr ⟨f_X3_146, (List.forall_mem_cons.mpr ⟨f_X3_189, (List.forall_mem_cons.mpr ⟨f_X3_198, (fun _ h => absurd h List.not_mem_nil)⟩)⟩)⟩)⟩)⟩)⟩)⟩)⟩)⟩)⟩)⟩)⟩)⟩)⟩)⟩)⟩)⟩)⟩)⟩)⟩)⟩)⟩)⟩)⟩)⟩)⟩)⟩)
set_option maxRecDepth 100000 in
theorem FTb_3_ok : ∀ e ∈ FTb_3, fok (rx 3) e.1 e.2.1 e.2.2 := by
  intro e he
  have h : FTb_3 = ([(13, 3, 2), (19, 3, 3), (22, 3, 4), (25, 3, 5), (28, 3, 6), (32, 3, 0), (36, 3, 1), (47, 8, 7), (54, 10, 12), (57, 10, 10), (73, 10, 11), (89, 10, 0), (93, 10, 1), (100, 10, 2), (114, 10, 6), (117, 8, 5), (120, 10, 5), (123, 8, 6), (132, 8, 8), (133, 10, 13), (136, 8, 9), (137, 8, 10), (140, 8, 0), (143, 8, 1), (146, 8, 2), (189, 8, 11), (198, 8, 4)] : List (Nat × Nat × Nat)) := rfl
  rw [h] at he
  exact FTb_3_0 e he
def FTb_4 : List (Nat × Nat × Nat) := [(9, 4, 1), (15, 4, 2), (18, 4, 3), (21, 4, 4), (24, 4, 5), (27, 4, 6), (30, 4, 7), (33, 4, 8), (36, 4, 9), (39, 4, 10), (42, 4, 11), (45, 4, 12), (48, 4, 13), (51, 4, 14), (54, 4, 15), (57, 4, 16), (61, 4, 0)]
set_option maxRecDepth 100000 in
theorem FTb_4_0 : ∀ e ∈ ([(9, 4, 1), (15, 4, 2), (18, 4, 3), (21, 4, 4), (24, 4, 5), (27, 4, 6), (30, 4, 7), (33, 4, 8), (36, 4, 9), (39, 4, 10), (42, 4, 11), (45, 4, 12), (48, 4, 13), (51, 4, 14), (54, 4, 15), (57, 4, 16), (61, 4, 0)] : List (Nat × Nat × Nat)), fok (rx 4) e.1 e.2.1 e.2.2 := (List.forall_mem_cons.mpr ⟨f_X4_9, (List.forall_mem_cons.mpr ⟨f_X4_15, (List.forall_mem_cons.mpr ⟨f_X4_18, (List.forall_mem_cons.mpr ⟨f_X4_21, (List.forall_mem_cons.mpr ⟨f_X4_24, (List.forall_mem_cons.mpr ⟨f_X4_27, (List.forall_mem_cons.mpr ⟨f_X4_30, (List.forall_mem_cons.mpr ⟨f_X4_33, (List.forall_mem_cons.mpr ⟨f_X4_36, (List.forall_mem_cons.mpr ⟨f_X4_39, (List.forall_mem_cons.mpr ⟨f_X4_42, (List.forall_mem_cons.mpr ⟨f_X4_45, (List.forall_mem_cons.mpr ⟨f_X4_48, (List.forall_mem_cons.mpr ⟨f_X4_51, (List.forall_mem_cons.mpr ⟨f_X4_54, (List.forall_mem_cons.mpr ⟨f_X4_57, (List.forall_mem_cons.mpr ⟨f_X4_61, (fun _ h => absurd h List.not_mem_nil)⟩)⟩)⟩)⟩)⟩)⟩)⟩)⟩)⟩)⟩)⟩)⟩)⟩)⟩)⟩)⟩)⟩)
set_option maxRecDepth 100000 in
theorem FTb_4_ok : ∀ e ∈ FTb_4, fok (rx 4) e.1 e.2.1 e.2.2 := by
  intro e he
  have h : FTb_4 = ([(9, 4, 1), (15, 4, 2), (18, 4, 3), (21, 4, 4), (24, 4, 5), (27, 4, 6), (30, 4, 7), (33, 4, 8), (36, 4, 9), (39, 4, 10), (42, 4, 11), (45, 4, 12), (48, 4, 13), (51, 4, 14), (54, 4, 15), (57, 4, 16), (61, 4, 0)] : List (Nat × Nat × Nat)) := rfl
  rw [h] at he
  exact FTb_4_0 e he
def FTb_5 : List (Nat × Nat × Nat) := [(11, 5, 1), (17, 5, 2), (20, 5, 4), (24, 5, 0), (28, 5, 3), (54, 10, 11), (57, 10, 0), (60, 10, 1), (64, 10, 3), (67, 10, 2), (78, 10, 12), (81, 10, 7), (84, 10, 8), (95, 10, 5), (98, 10, 10), (118, 10, 9), (128, 10, 6)]
set_option maxRecDepth 100000 in
theorem FTb_5_0 : ∀ e ∈ ([(11, 5, 1), (17, 5, 2), (20, 5, 4), (24, 5, 0), (28, 5, 3), (54, 10, 11), (57, 10, 0), (60, 10, 1), (64, 10, 3), (67, 10, 2), (78, 10, 12), (81, 10, 7), (84, 10, 8), (95, 10, 5), (98, 10, 10), (118, 10, 9), (128, 10, 6)] : List (Nat × Nat × Nat)), fok (rx 5) e.1 e.2.1 e.2.2 := (List.forall_mem_cons.mpr ⟨f_X5_11, (List.forall_mem_cons.mpr ⟨f_X5_17, (List.forall_mem_cons.mpr ⟨f_X5_20, (List.forall_mem_cons.mpr ⟨f_X5_24, (List.forall_mem_cons.mpr ⟨f_X5_28, (List.forall_mem_cons.mpr ⟨f_X5_54, (List.forall_mem_cons.mpr ⟨f_X5_57, (List.forall_mem_cons.mpr ⟨f_X5_60, (List.forall_mem_cons.mpr ⟨f_X5_64, (List.forall_mem_cons.mpr ⟨f_X5_67, (List.forall_mem_cons.mpr ⟨f_X5_78, (List.forall_mem_cons.mpr ⟨f_X5_81, (List.forall_mem_cons.mpr ⟨f_X5_84, (List.forall_mem_cons.mpr ⟨f_X5_95, (List.forall_mem_cons.mpr ⟨f_X5_98, (List.forall_mem_cons.mpr ⟨f_X5_118, (List.forall_mem_cons.mpr ⟨f_X5_128, (fun _ h => absurd h List.not_mem_nil)⟩)⟩)⟩)⟩)⟩)⟩)⟩)⟩)⟩)⟩)⟩)⟩)⟩)⟩)⟩)⟩)⟩)
set_option maxRecDepth 100000 in
theorem FTb_5_ok : ∀ e ∈ FTb_5, fok (rx 5) e.1 e.2.1 e.2.2 := by
  intro e he
  have h : FTb_5 = ([(11, 5, 1), (17, 5, 2), (20, 5, 4), (24, 5, 0), (28, 5, 3), (54, 10, 11), (57, 10, 0), (60, 10, 1), (64, 10, 3), (67, 10, 2), (78, 10, 12), (81, 10, 7), (84, 10, 8), (95, 10, 5), (98, 10, 10), (118, 10, 9), (128, 10, 6)] : List (Nat × Nat × Nat)) := rfl
  rw [h] at he
  exact FTb_5_0 e he
def FTb_6 : List (Nat × Nat × Nat) := [(9, 6, 0), (15, 6, 1), (18, 6, 2), (22, 6, 3), (25, 6, 4), (28, 7, 0), (33, 7, 7), (42, 7, 6)]
set_option maxRecDepth 100000 in
theorem FTb_6_0 : ∀ e ∈ ([(9, 6, 0), (15, 6, 1), (18, 6, 2), (22, 6, 3), (25, 6, 4), (28, 7, 0), (33, 7, 7), (42, 7, 6)] : List (Nat × Nat × Nat)), fok (rx 6) e.1 e.2.1 e.2.2 := (List.forall_mem_cons.mpr ⟨f_X6_9, (List.forall_mem_cons.mpr ⟨f_X6_15, (List.forall_mem_cons.mpr ⟨f_X6_18, (List.forall_mem_cons.mpr ⟨f_X6_22, (List.forall_mem_cons.mpr ⟨f_X6_25, (List.forall_mem_cons.mpr ⟨f_X6_28, (List.forall_mem_cons.mpr ⟨f_X6_33, (List.forall_mem_cons.mpr ⟨f_X6_42, (fun _ h => absurd h List.not_mem_nil)⟩)⟩)⟩)⟩)⟩)⟩)⟩)⟩)
set_option maxRecDepth 100000 in
theorem FTb_6_ok : ∀ e ∈ FTb_6, fok (rx 6) e.1 e.2.1 e.2.2 := by
  intro e he
  have h : FTb_6 = ([(9, 6, 0), (15, 6, 1), (18, 6, 2), (22, 6, 3), (25, 6, 4), (28, 7, 0), (33, 7, 7), (42, 7, 6)] : List (Nat × Nat × Nat)) := rfl
  rw [h] at he
  exact FTb_6_0 e he
def FTb_7 : List (Nat × Nat × Nat) := [(9, 7, 0), (18, 7, 1), (25, 7, 2), (29, 7, 3), (34, 7, 4), (37, 7, 5), (40, 7, 6), (43, 7, 7), (51, 7, 8), (55, 7, 9), (58, 7, 10), (86, 0, 0), (101, 4, 3), (104, 4, 6), (110, 4, 15), (125, 4, 12), (128, 4, 9), (131, 4, 10), (134, 4, 11), (142, 4, 14), (146, 4, 8), (162, 4, 5), (165, 4, 7), (175, 4, 13)]
set_option maxRecDepth 100000 in
theorem FTb_7_0 : ∀ e ∈ ([(9, 7, 0), (18, 7, 1), (25, 7, 2), (29, 7, 3), (34, 7, 4), (37, 7, 5), (40, 7, 6), (43, 7, 7), (51, 7, 8), (55, 7, 9), (58, 7, 10), (86, 0, 0), (101, 4, 3), (104, 4, 6), (110, 4, 15), (125, 4, 12), (128, 4, 9), (131, 4, 10), (134, 4, 11), (142, 4, 14), (146, 4, 8), (162, 4, 5), (165, 4, 7), (175, 4, 13)] : List (Nat × Nat × Nat)), fok (rx 7) e.1 e.2.1 e.2.2 := (List.forall_mem_cons.mpr ⟨f_X7_9, (List.forall_mem_cons.mpr ⟨f_X7_18, (List.forall_mem_cons.mpr ⟨f_X7_25, (List.forall_mem_cons.mpr ⟨f_X7_29, (List.forall_mem_cons.mpr ⟨f_X7_34, (List.forall_mem_cons.mpr ⟨f_X7_37, (List.forall_mem_cons.mpr ⟨f_X7_40, (List.forall_mem_cons.mpr ⟨f_X7_43, (List.forall_mem_cons.mpr ⟨f_X7_51, (List.forall_mem_cons.mpr ⟨f_X7_55, (List.forall_mem_cons.mpr ⟨f_X7_58, (List.forall_mem_cons.mpr ⟨f_X7_86, (List.forall_mem_cons.mpr ⟨f_X7_101, (List.forall_mem_cons.mpr ⟨f_X7_104, (List.forall_mem_cons.mpr ⟨f_X7_110, (List.forall_mem_cons.mpr ⟨f_X7_125, (List.forall_mem_cons.mpr ⟨f_X7_128, (List.forall_mem_cons.mpr ⟨f_X7_131, (List.forall_mem_cons.mpr ⟨f_X7_134, (List.forall_mem_cons.mpr ⟨f_X7_142, (List.forall_mem_cons.mpr ⟨f_X7_146, (List.forall_mem_cons.mpr ⟨f_X7_162, (List.forall_mem_cons.mpr ⟨f_X7_165, (List.forall_mem_cons.mpr ⟨f_X7_175, (fun _ h => absurd h List.not_mem_nil)⟩)⟩)⟩)⟩)⟩)⟩)⟩)⟩)⟩)⟩)⟩)⟩)⟩)⟩)⟩)⟩)⟩)⟩)⟩)⟩)⟩)⟩)⟩)⟩)
set_option maxRecDepth 100000 in
theorem FTb_7_ok : ∀ e ∈ FTb_7, fok (rx 7) e.1 e.2.1 e.2.2 := by
  intro e he
  have h : FTb_7 = ([(9, 7, 0), (18, 7, 1), (25, 7, 2), (29, 7, 3), (34, 7, 4), (37, 7, 5), (40, 7, 6), (43, 7, 7), (51, 7, 8), (55, 7, 9), (58, 7, 10), (86, 0, 0), (101, 4, 3), (104, 4, 6), (110, 4, 15), (125, 4, 12), (128, 4, 9), (131, 4, 10), (134, 4, 11), (142, 4, 14), (146, 4, 8), (162, 4, 5), (165, 4, 7), (175, 4, 13)] : List (Nat × Nat × Nat)) := rfl
  rw [h] at he
  exact FTb_7_0 e he
def FTb_8 : List (Nat × Nat × Nat) := [(9, 8, 0), (13, 8, 1), (16, 8, 2), (19, 8, 3), (22, 8, 4), (27, 8, 5), (30, 8, 6), (33, 8, 7), (36, 8, 8), (40, 8, 9), (43, 8, 10), (46, 8, 11), (49, 8, 12)]
set_option maxRecDepth 100000 in
theorem FTb_8_0 : ∀ e ∈ ([(9, 8, 0), (13, 8, 1), (16, 8, 2), (19, 8, 3), (22, 8, 4), (27, 8, 5), (30, 8, 6), (33, 8, 7), (36, 8, 8), (40, 8, 9), (43, 8, 10), (46, 8, 11), (49, 8, 12)] : List (Nat × Nat × Nat)), fok (rx 8) e.1 e.2.1 e.2.2 := (List.forall_mem_cons.mpr ⟨f_X8_9, (List.forall_mem_cons.mpr ⟨f_X8_13, (List.forall_mem_cons.mpr ⟨f_X8_16, (List.forall_mem_cons.mpr ⟨f_X8_19, (List.forall_mem_cons.mpr ⟨f_X8_22, (List.forall_mem_cons.mpr ⟨f_X8_27, (List.forall_mem_cons.mpr ⟨f_X8_30, (List.forall_mem_cons.mpr ⟨f_X8_33, (List.forall_mem_cons.mpr ⟨f_X8_36, (List.forall_mem_cons.mpr ⟨f_X8_40, (List.forall_mem_cons.mpr ⟨f_X8_43, (List.forall_mem_cons.mpr ⟨f_X8_46, (List.forall_mem_cons.mpr ⟨f_X8_49, (fun _ h => absurd h List.not_mem_nil)⟩)⟩)⟩)⟩)⟩)⟩)⟩)⟩)⟩)⟩)⟩)⟩)⟩)
set_option maxRecDepth 100000 in
theorem FTb_8_ok : ∀ e ∈ FTb_8, fok (rx 8) e.1 e.2.1 e.2.2 := by
  intro e he
  have h : FTb_8 = ([(9, 8, 0), (13, 8, 1), (16, 8, 2), (19, 8, 3), (22, 8, 4), (27, 8, 5), (30, 8, 6), (33, 8, 7), (36, 8, 8), (40, 8, 9), (43, 8, 10), (46, 8, 11), (49, 8, 12)] : List (Nat × Nat × Nat)) := rfl
  rw [h] at he
  exact FTb_8_0 e he
def FTb_9 : List (Nat × Nat × Nat) := [(9, 9, 2), (15, 9, 3), (18, 9, 4), (21, 9, 0), (25, 9, 1), (49, 10, 7), (53, 10, 8), (59, 10, 10), (66, 10, 9), (69, 10, 11), (72, 10, 12), (118, 10, 13)]
set_option maxRecDepth 100000 in
theorem FTb_9_0 : ∀ e ∈ ([(9, 9, 2), (15, 9, 3), (18, 9, 4), (21, 9, 0), (25, 9, 1), (49, 10, 7), (53, 10, 8), (59, 10, 10), (66, 10, 9), (69, 10, 11), (72, 10, 12), (118, 10, 13)] : List (Nat × Nat × Nat)), fok (rx 9) e.1 e.2.1 e.2.2 := (List.forall_mem_cons.mpr ⟨f_X9_9, (List.forall_mem_cons.mpr ⟨f_X9_15, (List.forall_mem_cons.mpr ⟨f_X9_18, (List.forall_mem_cons.mpr ⟨f_X9_21, (List.forall_mem_cons.mpr ⟨f_X9_25, (List.forall_mem_cons.mpr ⟨f_X9_49, (List.forall_mem_cons.mpr ⟨f_X9_53, (List.forall_mem_cons.mpr ⟨f_X9_59, (List.forall_mem_cons.mpr ⟨f_X9_66, (List.forall_mem_cons.mpr ⟨f_X9_69, (List.forall_mem_cons.mpr ⟨f_X9_72, (List.forall_mem_cons.mpr ⟨f_X9_118, (fun _ h => absurd h List.not_mem_nil)⟩)⟩)⟩)⟩)⟩)⟩)⟩)⟩)⟩)⟩)⟩)⟩)
set_option maxRecDepth 100000 in
theorem FTb_9_ok : ∀ e ∈ FTb_9, fok (rx 9) e.1 e.2.1 e.2.2 := by
  intro e he
  have h : FTb_9 = ([(9, 9, 2), (15, 9, 3), (18, 9, 4), (21, 9, 0), (25, 9, 1), (49, 10, 7), (53, 10, 8), (59, 10, 10), (66, 10, 9), (69, 10, 11), (72, 10, 12), (118, 10, 13)] : List (Nat × Nat × Nat)) := rfl
  rw [h] at he
  exact FTb_9_0 e he
def FTb_10 : List (Nat × Nat × Nat) := [(11, 10, 0), (15, 10, 1), (19, 10, 2), (22, 10, 3), (25, 10, 4), (28, 10, 5), (32, 10, 6), (35, 10, 7), (38, 10, 8), (41, 10, 9), (44, 10, 10), (47, 10, 11), (51, 10, 12), (54, 10, 13)]
set_option maxRecDepth 100000 in
theorem FTb_10_0 : ∀ e ∈ ([(11, 10, 0), (15, 10, 1), (19, 10, 2), (22, 10, 3), (25, 10, 4), (28, 10, 5), (32, 10, 6), (35, 10, 7), (38, 10, 8), (41, 10, 9), (44, 10, 10), (47, 10, 11), (51, 10, 12), (54, 10, 13)] : List (Nat × Nat × Nat)), fok (rx 10) e.1 e.2.1 e.2.2 := (List.forall_mem_cons.mpr ⟨f_X10_11, (List.forall_mem_cons.mpr ⟨f_X10_15, (List.forall_mem_cons.mpr ⟨f_X10_19, (List.forall_mem_cons.mpr ⟨f_X10_22, (List.forall_mem_cons.mpr ⟨f_X10_25, (List.forall_mem_cons.mpr ⟨f_X10_28, (List.forall_mem_cons.mpr ⟨f_X10_32, (List.forall_mem_cons.mpr ⟨f_X10_35, (List.forall_mem_cons.mpr ⟨f_X10_38, (List.forall_mem_cons.mpr ⟨f_X10_41, (List.forall_mem_cons.mpr ⟨f_X10_44, (List.forall_mem_cons.mpr ⟨f_X10_47, (List.forall_mem_cons.mpr ⟨f_X10_51, (List.forall_mem_cons.mpr ⟨f_X10_54, (fun _ h => absurd h List.not_mem_nil)⟩)⟩)⟩)⟩)⟩)⟩)⟩)⟩)⟩)⟩)⟩)⟩)⟩)⟩)
set_option maxRecDepth 100000 in
theorem FTb_10_ok : ∀ e ∈ FTb_10, fok (rx 10) e.1 e.2.1 e.2.2 := by
  intro e he
  have h : FTb_10 = ([(11, 10, 0), (15, 10, 1), (19, 10, 2), (22, 10, 3), (25, 10, 4), (28, 10, 5), (32, 10, 6), (35, 10, 7), (38, 10, 8), (41, 10, 9), (44, 10, 10), (47, 10, 11), (51, 10, 12), (54, 10, 13)] : List (Nat × Nat × Nat)) := rfl
  rw [h] at he
  exact FTb_10_0 e he
def FTb_11 : List (Nat × Nat × Nat) := [(9, 11, 0), (13, 11, 1), (17, 11, 2), (20, 11, 3), (23, 11, 4), (26, 11, 5), (32, 11, 6), (41, 11, 7), (48, 11, 8), (55, 11, 9), (59, 11, 10), (67, 11, 11), (76, 11, 12), (83, 11, 13), (90, 11, 14), (97, 11, 15), (109, 9, 4), (120, 5, 4), (128, 8, 8), (131, 8, 10), (134, 8, 11), (137, 8, 12), (140, 8, 9), (143, 7, 3), (144, 8, 5), (148, 8, 7), (151, 8, 6), (154, 8, 0), (157, 8, 1), (160, 8, 2), (163, 8, 3), (166, 8, 4), (169, 1, 0), (212, 6, 4), (215, 6, 3), (218, 6, 2), (221, 6, 1), (224, 6, 0), (230, 7, 2), (234, 2, 9), (237, 2, 10), (242, 7, 0), (245, 7, 1), (249, 0, 0), (254, 7, 5), (257, 7, 6)]
set_option maxRecDepth 100000 in
theorem FTb_11_0 : ∀ e ∈ ([(9, 11, 0), (13, 11, 1), (17, 11, 2), (20, 11, 3), (23, 11, 4), (26, 11, 5), (32, 11, 6), (41, 11, 7), (48, 11, 8), (55, 11, 9), (59, 11, 10), (67, 11, 11), (76, 11, 12), (83, 11, 13), (90, 11, 14), (97, 11, 15), (109, 9, 4), (120, 5, 4), (128, 8, 8), (131, 8, 10), (134, 8, 11), (137, 8, 12), (140, 8, 9), (143, 7, 3), (144, 8, 5), (148, 8, 7), (151, 8, 6), (154, 8, 0), (157, 8, 1), (160, 8, 2)] : List (Nat × Nat × Nat)), fok (rx 11) e.1 e.2.1 e.2.2 := (List.forall_mem_cons.mpr ⟨f_X11_9, (List.forall_mem_cons.mpr ⟨f_X11_13, (List.forall_mem_cons.mpr ⟨f_X11_17, (List.forall_mem_cons.mpr ⟨f_X11_20, (List.forall_mem_cons.mpr ⟨f_X11_23, (List.forall_mem_cons.mpr ⟨f_X11_26, (List.forall_mem_cons.mpr ⟨f_X11_32, (List.forall_mem_cons.mpr ⟨f_X11_41, (List.forall_mem_cons.mpr ⟨f_X11_48, (List.forall_mem_cons.mpr ⟨f_X11_55, (List.forall_mem_cons.mpr ⟨f_X11_59, (List.forall_mem_cons.mpr ⟨f_X11_67, (List.forall_mem_cons.mpr ⟨f_X11_76, (List.forall_mem_cons.mpr ⟨f_X11_83, (List.forall_mem_cons.mpr ⟨f_X11_90, (List.forall_mem_cons.mpr ⟨f_X11_97, (List.forall_mem_cons.mpr ⟨f_X11_109, (List.forall_mem_cons.mpr ⟨f_X11_120, (List.forall_mem_cons.mpr ⟨f_X11_128, (List.forall_mem_cons.mpr ⟨f_X11_131, (List.forall_mem_cons.mpr ⟨f_X11_134, (List.forall_mem_cons.mpr ⟨f_X11_137, (List.forall_mem_cons.mpr ⟨f_X11_140, (List.forall_mem_cons.mpr ⟨f_X11_143, (List.forall_mem_cons.mpr ⟨f_X11_144, (List.forall_mem_cons.mpr ⟨f_X11_148, (List.forall_mem_cons.mpr ⟨f_X11_151, (List.forall_mem_cons.mpr ⟨f_X11_154, (List.forall_mem_cons.mpr ⟨f_X11_157, (List.forall_mem_cons.mpr ⟨f_X11_160, (fun _ h => absurd h List.not_mem_nil)⟩)⟩)⟩)⟩)⟩)⟩)⟩)⟩)⟩)⟩)⟩)⟩)⟩)⟩)⟩)⟩)⟩)⟩)⟩)⟩)⟩)⟩)⟩)⟩)⟩)⟩)⟩)⟩)⟩)⟩)
set_option maxRecDepth 100000 in
theorem FTb_11_1 : ∀ e ∈ ([(163, 8, 3), (166, 8, 4), (169, 1, 0), (212, 6, 4), (215, 6, 3), (218, 6, 2), (221, 6, 1), (224, 6, 0), (230, 7, 2), (234, 2, 9), (237, 2, 10), (242, 7, 0), (245, 7, 1), (249, 0, 0), (254, 7, 5), (257, 7, 6)] : List (Nat × Nat × Nat)), fok (rx 11) e.1 e.2.1 e.2.2 := (List.forall_mem_cons.mpr ⟨f_X11_163, (List.forall_mem_cons.mpr ⟨f_X11_166, (List.forall_mem_cons.mpr ⟨f_X11_169, (List.forall_mem_cons.mpr ⟨f_X11_212, (List.forall_mem_cons.mpr ⟨f_X11_215, (List.forall_mem_cons.mpr ⟨f_X11_218, (List.forall_mem_cons.mpr ⟨f_X11_221, (List.forall_mem_cons.mpr ⟨f_X11_224, (List.forall_mem_cons.mpr ⟨f_X11_230, (List.forall_mem_cons.mpr ⟨f_X11_234, (List.forall_mem_cons.mpr ⟨f_X11_237, (List.forall_mem_cons.mpr ⟨f_X11_242, (List.forall_mem_cons.mpr ⟨f_X11_245, (List.forall_mem_cons.mpr ⟨f_X11_249, (List.forall_mem_cons.mpr ⟨f_X11_254, (List.forall_mem_cons.mpr ⟨f_X11_257, (fun _ h => absurd h List.not_mem_nil)⟩)⟩)⟩)⟩)⟩)⟩)⟩)⟩)⟩)⟩)⟩)⟩)⟩)⟩)⟩)⟩)
set_option maxRecDepth 100000 in
theorem FTb_11_ok : ∀ e ∈ FTb_11, fok (rx 11) e.1 e.2.1 e.2.2 := by
  intro e he
  have h : FTb_11 = ([(9, 11, 0), (13, 11, 1), (17, 11, 2), (20, 11, 3), (23, 11, 4), (26, 11, 5), (32, 11, 6), (41, 11, 7), (48, 11, 8), (55, 11, 9), (59, 11, 10), (67, 11, 11), (76, 11, 12), (83, 11, 13), (90, 11, 14), (97, 11, 15), (109, 9, 4), (120, 5, 4), (128, 8, 8), (131, 8, 10), (134, 8, 11), (137, 8, 12), (140, 8, 9), (143, 7, 3), (144, 8, 5), (148, 8, 7), (151, 8, 6), (154, 8, 0), (157, 8, 1), (160, 8, 2)] : List (Nat × Nat × Nat)) ++ ([(163, 8, 3), (166, 8, 4), (169, 1, 0), (212, 6, 4), (215, 6, 3), (218, 6, 2), (221, 6, 1), (224, 6, 0), (230, 7, 2), (234, 2, 9), (237, 2, 10), (242, 7, 0), (245, 7, 1), (249, 0, 0), (254, 7, 5), (257, 7, 6)] : List (Nat × Nat × Nat)) := rfl
  rw [h] at he
  simp only [List.mem_append] at he
  rcases he with (he | he)
  · exact FTb_11_0 e he
  · exact FTb_11_1 e he
def FTb_13 : List (Nat × Nat × Nat) := [(9, 13, 5), (15, 13, 6), (18, 13, 7), (21, 13, 8), (24, 13, 9), (28, 13, 10), (32, 13, 11)]
set_option maxRecDepth 100000 in
theorem FTb_13_0 : ∀ e ∈ ([(9, 13, 5), (15, 13, 6), (18, 13, 7), (21, 13, 8), (24, 13, 9), (28, 13, 10), (32, 13, 11)] : List (Nat × Nat × Nat)), fok (rx 13) e.1 e.2.1 e.2.2 := (List.forall_mem_cons.mpr ⟨f_X13_9, (List.forall_mem_cons.mpr ⟨f_X13_15, (List.forall_mem_cons.mpr ⟨f_X13_18, (List.forall_mem_cons.mpr ⟨f_X13_21, (List.forall_mem_cons.mpr ⟨f_X13_24, (List.forall_mem_cons.mpr ⟨f_X13_28, (List.forall_mem_cons.mpr ⟨f_X13_32, (fun _ h => absurd h List.not_mem_nil)⟩)⟩)⟩)⟩)⟩)⟩)⟩)
set_option maxRecDepth 100000 in
theorem FTb_13_ok : ∀ e ∈ FTb_13, fok (rx 13) e.1 e.2.1 e.2.2 := by
  intro e he
  have h : FTb_13 = ([(9, 13, 5), (15, 13, 6), (18, 13, 7), (21, 13, 8), (24, 13, 9), (28, 13, 10), (32, 13, 11)] : List (Nat × Nat × Nat)) := rfl
  rw [h] at he
  exact FTb_13_0 e he
def FTb_14 : List (Nat × Nat × Nat) := [(12, 14, 0), (16, 14, 1), (20, 14, 3), (23, 14, 8), (27, 14, 11), (31, 14, 12), (34, 14, 13), (37, 14, 14), (40, 14, 15), (44, 14, 16), (47, 14, 17), (50, 14, 18), (55, 14, 19), (58, 14, 21), (61, 14, 22), (64, 14, 26), (67, 14, 27), (70, 14, 28), (73, 14, 30), (76, 14, 31), (79, 14, 32), (85, 14, 33), (89, 14, 34), (92, 14, 38), (95, 14, 39), (98, 14, 40), (101, 14, 41), (104, 14, 42), (108, 14, 45), (111, 14, 47), (114, 14, 48), (118, 14, 49), (122, 14, 51), (125, 14, 52), (128, 14, 54), (131, 14, 73), (134, 14, 74), (137, 14, 75), (140, 14, 81), (143, 14, 82), (146, 14, 83), (149, 14, 84), (152, 14, 85), (155, 14, 90), (158, 14, 2), (161, 14, 4), (164, 14, 7), (167, 14, 5), (170, 14, 6), (184, 14, 10), (191, 14, 25), (194, 14, 20), (197, 14, 23), (200, 14, 24), (203, 14, 29), (302, 13, 2), (305, 14, 36), (309, 13, 5), (311, 13, 6), (312, 13, 7), (369, 13, 11), (380, 13, 3), (382, 13, 9), (388, 14, 43), (394, 14, 37), (397, 14, 44), (432, 14, 46), (504, 13, 8), (507, 13, 4), (516, 13, 10), (519, 14, 9), (533, 13, 0), (534, 13, 1), (535, 14, 35), (538, 14, 50), (541, 14, 72), (550, 14, 58), (553, 14, 68), (556, 14, 64), (559, 14, 65), (562, 14, 66), (565, 14, 67), (568, 14, 63), (571, 14, 62), (580, 14, 56), (583, 14, 57), (586, 14, 60), (589, 14, 69), (592, 14, 59), (595, 14, 61), (598, 14, 70), (616, 14, 71), (651, 14, 53), (693, 14, 55), (746, 14, 78), (749, 14, 76), (752, 14, 77), (755, 14, 79), (764, 14, 80), (787, 14, 89), (793, 14, 86), (796, 14, 87), (799, 14, 88)]
set_option maxRecDepth 100000 in
theorem FTb_14_0 : ∀ e ∈ ([(12, 14, 0), (16, 14, 1), (20, 14, 3), (23, 14, 8), (27, 14, 11), (31, 14, 12), (34, 14, 13), (37, 14, 14), (40, 14, 15), (44, 14, 16), (47, 14, 17), (50, 14, 18), (55, 14, 19), (58, 14, 21), (61, 14, 22), (64, 14, 26), (67, 14, 27), (70, 14, 28), (73, 14, 30), (76, 14, 31), (79, 14, 32), (85, 14, 33), (89, 14, 34), (92, 14, 38), (95, 14, 39), (98, 14, 40), (101, 14, 41), (104, 14, 42), (108, 14, 45), (111, 14, 47)] : List (Nat × Nat × Nat)), fok (rx 14) e.1 e.2.1 e.2.2 := (List.forall_mem_cons.mpr ⟨f_X14_12, (List.forall_mem_cons.mpr ⟨f_X14_16, (List.forall_mem_cons.mpr ⟨f_X14_20, (List.forall_mem_cons.mpr ⟨f_X14_23, (List.forall_mem_cons.mpr ⟨f_X14_27, (List.forall_mem_cons.mpr ⟨f_X14_31, (List.forall_mem_cons.mpr ⟨f_X14_34, (List.forall_mem_cons.mpr ⟨f_X14_37, (List.forall_mem_cons.mpr ⟨f_X14_40, (List.forall_mem_cons.mpr ⟨f_X14_44, (List.forall_mem_cons.mpr ⟨f_X14_47, (List.forall_mem_cons.mpr ⟨f_X14_50, (List.forall_mem_cons.mpr ⟨f_X14_55, (List.forall_mem_cons.mpr ⟨f_X14_58, (List.forall_mem_cons.mpr ⟨f_X14_61, (List.forall_mem_cons.mpr ⟨f_X14_64, (List.forall_mem_cons.mpr ⟨f_X14_67, (List.forall_mem_cons.mpr ⟨f_X14_70, (List.forall_mem_cons.mpr ⟨f_X14_73, (List.forall_mem_cons.mpr ⟨f_X14_76, (List.forall_mem_cons.mpr ⟨f_X14_79, (List.forall_mem_cons.mpr ⟨f_X14_85, (List.forall_mem_cons.mpr ⟨f_X14_89, (List.forall_mem_cons.mpr ⟨f_X14_92, (List.forall_mem_cons.mpr ⟨f_X14_95, (List.forall_mem_cons.mpr ⟨f_X14_98, (List.forall_mem_cons.mpr ⟨f_X14_101, (List.forall_mem_cons.mpr ⟨f_X14_104, (List.forall_mem_cons.mpr ⟨f_X14_108, (List.forall_mem_cons.mpr ⟨f_X14_111, (fun _ h => absurd h List.not_mem_nil)⟩)⟩)⟩)⟩)⟩)⟩)⟩)⟩)⟩)⟩)⟩)⟩)⟩)⟩)⟩)⟩)⟩)⟩)⟩)⟩)⟩)⟩)⟩)⟩)⟩)⟩)⟩)⟩)⟩)⟩)
set_option maxRecDepth 100000 in
theorem FTb_14_1 : ∀ e ∈ ([(114, 14, 48), (118, 14, 49), (122, 14, 51), (125, 14, 52), (128, 14, 54), (131, 14, 73), (134, 14, 74), (137, 14, 75), (140, 14, 81), (143, 14, 82), (146, 14, 83), (149, 14, 84), (152, 14, 85), (155, 14, 90), (158, 14, 2), (161, 14, 4), (164, 14, 7), (167, 14, 5), (170, 14, 6), (184, 14, 10), (191, 14, 25), (194, 14, 20), (197, 14, 23), (200, 14, 24), (203, 14, 29), (302, 13, 2), (305, 14, 36), (309, 13, 5), (311, 13, 6), (312, 13, 7)] : List (Nat × Nat × Nat)), fok (rx 14) e.1 e.2.1 e.2.2 := (List.forall_mem_cons.mpr ⟨f_X14_114, (List.forall_mem_cons.mpr ⟨f_X14_118, (List.forall_mem_cons.mpr ⟨f_X14_122, (List.forall_mem_cons.mpr ⟨f_X14_125, (List.forall_mem_cons.mpr ⟨f_X14_128, (List.forall_mem_cons.mpr ⟨f_X14_131, (List.forall_mem_cons.mpr ⟨f_X14_134, (List.forall_mem_cons.mpr ⟨f_X14_137, (List.forall_mem_cons.mpr ⟨f_X14_140, (List.forall_mem_cons.mpr ⟨f_X14_143, (List.forall_mem_cons.mpr ⟨f_X14_146, (List.forall_mem_cons.mpr ⟨f_X14_149, (List.forall_mem_cons.mpr ⟨f_X14_152, (List.forall_mem_cons.mpr ⟨f_X14_155, (List.forall_mem_cons.mpr ⟨f_X14_158, (List.forall_mem_cons.mpr ⟨f_X14_161, (List.forall_mem_cons.mpr ⟨f_X14_164, (List.forall_mem_cons.mpr ⟨f_X14_167, (List.forall_mem_cons.mpr ⟨f_X14_170, (List.forall_mem_cons.mpr ⟨f_X14_184, (List.forall_mem_cons.mpr ⟨f_X14_191, (List.forall_mem_cons.mpr ⟨f_X14_194, (List.forall_mem_cons.mpr ⟨f_X14_197, (List.forall_mem_cons.mpr ⟨f_X14_200, (List.forall_mem_cons.mpr ⟨f_X14_203, (List.forall_mem_cons.mpr ⟨f_X14_302, (List.forall_mem_cons.mpr ⟨f_X14_305, (List.forall_mem_cons.mpr ⟨f_X14_309, (List.forall_mem_cons.mpr ⟨f_X14_311, (List.forall_mem_cons.mpr ⟨f_X14_312, (fun _ h => absurd h List.not_mem_nil)⟩)⟩)⟩)⟩)⟩)⟩)⟩)⟩)⟩)⟩)⟩)⟩)⟩)⟩)⟩)⟩)⟩)⟩)⟩)⟩)⟩)⟩)⟩)⟩)⟩)⟩)⟩)⟩)⟩)⟩)
set_option maxRecDepth 100000 in
theorem FTb_14_2 : ∀ e ∈ ([(369, 13, 11), (380, 13, 3), (382, 13, 9), (388, 14, 43), (394, 14, 37), (397, 14, 44), (432, 14, 46), (504, 13, 8), (507, 13, 4), (516, 13, 10), (519, 14, 9), (533, 13, 0), (534, 13, 1), (535, 14, 35), (538, 14, 50), (541, 14, 72), (550, 14, 58), (553, 14, 68), (556, 14, 64), (559, 14, 65), (562, 14, 66), (565, 14, 67), (568, 14, 63), (571, 14, 62), (580, 14, 56), (583, 14, 57), (586, 14, 60), (589, 14, 69), (592, 14, 59), (595, 14, 61)] : List (Nat × Nat × Nat)), fok (rx 14) e.1 e.2.1 e.2.2 := (List.forall_mem_cons.mpr ⟨f_X14_369, (List.forall_mem_cons.mpr ⟨f_X14_380, (List.forall_mem_cons.mpr ⟨f_X14_382, (List.forall_mem_cons.mpr ⟨f_X14_388, (List.forall_mem_cons.mpr ⟨f_X14_394, (List.forall_mem_cons.mpr ⟨f_X14_397, (List.forall_mem_cons.mpr ⟨f_X14_432, (List.forall_mem_cons.mpr ⟨f_X14_504, (List.forall_mem_cons.mpr ⟨f_X14_507, (List.forall_mem_cons.mpr ⟨f_X14_516, (List.forall_mem_cons.mpr ⟨f_X14_519, (List.forall_mem_cons.mpr ⟨f_X14_533, (List.forall_mem_cons.mpr ⟨f_X14_534, (List.forall_mem_cons.mpr ⟨f_X14_535, (List.forall_mem_cons.mpr ⟨f_X14_538, (List.forall_mem_cons.mpr ⟨f_X14_541, (List.forall_mem_cons.mpr ⟨f_X14_550, (List.forall_mem_cons.mpr ⟨f_X14_553, (List.forall_mem_cons.mpr ⟨f_X14_556, (List.forall_mem_cons.mpr ⟨f_X14_559, (List.forall_mem_cons.mpr ⟨f_X14_562, (List.forall_mem_cons.mpr ⟨f_X14_565, (List.forall_mem_cons.mpr ⟨f_X14_568, (List.forall_mem_cons.mpr ⟨f_X14_571, (List.forall_mem_cons.mpr ⟨f_X14_580, (List.forall_mem_cons.mpr ⟨f_X14_583, (List.forall_mem_cons.mpr ⟨f_X14_586, (List.forall_mem_cons.mpr ⟨f_X14_589, (List.forall_mem_cons.mpr ⟨f_X14_592, (List.forall_mem_cons.mpr ⟨f_X14_595, (fun _ h => absurd h List.not_mem_nil)⟩)⟩)⟩)⟩)⟩)⟩)⟩)⟩)⟩)⟩)⟩)⟩)⟩)⟩)⟩)⟩)⟩)⟩)⟩)⟩)⟩)⟩)⟩)⟩)⟩)⟩)⟩)⟩)⟩)⟩)
set_option maxRecDepth 100000 in
theorem FTb_14_3 : ∀ e ∈ ([(598, 14, 70), (616, 14, 71), (651, 14, 53), (693, 14, 55), (746, 14, 78), (749, 14, 76), (752, 14, 77), (755, 14, 79), (764, 14, 80), (787, 14, 89), (793, 14, 86), (796, 14, 87), (799, 14, 88)] : List (Nat × Nat × Nat)), fok (rx 14) e.1 e.2.1 e.2.2 := (List.forall_mem_cons.mpr ⟨f_X14_598, (List.forall_mem_cons.mpr ⟨f_X14_616, (List.forall_mem_cons.mpr ⟨f_X14_651, (List.forall_mem_cons.mpr ⟨f_X14_693, (List.forall_mem_cons.mpr ⟨f_X14_746, (List.forall_mem_cons.mpr ⟨f_X14_749, (List.forall_mem_cons.mpr ⟨f_X14_752, (List.forall_mem_cons.mpr ⟨f_X14_755, (List.forall_mem_cons.mpr ⟨f_X14_764, (List.forall_mem_cons.mpr ⟨f_X14_787, (List.forall_mem_cons.mpr ⟨f_X14_793, (List.forall_mem_cons.mpr ⟨f_X14_796, (List.forall_mem_cons.mpr ⟨f_X14_799, (fun _ h => absurd h List.not_mem_nil)⟩)⟩)⟩)⟩)⟩)⟩)⟩)⟩)⟩)⟩)⟩)⟩)⟩)
set_option maxRecDepth 100000 in
theorem FTb_14_ok : ∀ e ∈ FTb_14, fok (rx 14) e.1 e.2.1 e.2.2 := by
  intro e he
  have h : FTb_14 = ([(12, 14, 0), (16, 14, 1), (20, 14, 3), (23, 14, 8), (27, 14, 11), (31, 14, 12), (34, 14, 13), (37, 14, 14), (40, 14, 15), (44, 14, 16), (47, 14, 17), (50, 14, 18), (55, 14, 19), (58, 14, 21), (61, 14, 22), (64, 14, 26), (67, 14, 27), (70, 14, 28), (73, 14, 30), (76, 14, 31), (79, 14, 32), (85, 14, 33), (89, 14, 34), (92, 14, 38), (95, 14, 39), (98, 14, 40), (101, 14, 41), (104, 14, 42), (108, 14, 45), (111, 14, 47)] : List (Nat × Nat × Nat)) ++ ([(114, 14, 48), (118, 14, 49), (122, 14, 51), (125, 14, 52), (128, 14, 54), (131, 14, 73), (134, 14, 74), (137, 14, 75), (140, 14, 81), (143, 14, 82), (146, 14, 83), (149, 14, 84), (152, 14, 85), (155, 14, 90), (158, 14, 2), (161, 14, 4), (164, 14, 7), (167, 14, 5), (170, 14, 6), (184, 14, 10), (191, 14, 25), (194, 14, 20), (197, 14, 23), (200, 14, 24), (203, 14, 29), (302, 13, 2), (305, 14, 36), (309, 13, 5), (311, 13, 6), (312, 13, 7)] : List (Nat × Nat × Nat)) ++ ([(369, 13, 11), (380, 13, 3), (382, 13, 9), (388, 14, 43), (394, 14, 37), (397, 14, 44), (432, 14, 46), (504, 13, 8), (507, 13, 4), (516, 13, 10), (519, 14, 9), (533, 13, 0), (534, 13, 1), (535, 14, 35), (538, 14, 50), (541, 14, 72), (550, 14, 58), (553, 14, 68), (556, 14, 64), (559, 14, 65), (562, 14, 66), (565, 14, 67), (568, 14, 63), (571, 14, 62), (580, 14, 56), (583, 14, 57), (586, 14, 60), (589, 14, 69), (592, 14, 59), (595, 14, 61)] : List (Nat × Nat × Nat)) ++ ([(598, 14, 70), (616, 14, 71), (651, 14, 53), (693, 14, 55), (746, 14, 78), (749, 14, 76), (752, 14, 77), (755, 14, 79), (764, 14, 80), (787, 14, 89), (793, 14, 86), (796, 14, 87), (799, 14, 88)] : List (Nat × Nat × Nat)) := rfl
  rw [h] at he
  simp only [List.mem_append] at he
  rcases he with (((he | he) | he) | he)
  · exact FTb_14_0 e he
  · exact FTb_14_1 e he
  · exact FTb_14_2 e he
  · exact FTb_14_3 e he
def FTb (n : Nat) : List (Nat × Nat × Nat) := match n with
  | 0 => FTb_0
  | 1 => FTb_1
  | 2 => FTb_2
  | 3 => FTb_3
  | 4 => FTb_4
  | 5 => FTb_5
  | 6 => FTb_6
  | 7 => FTb_7
  | 8 => FTb_8
  | 9 => FTb_9
  | 10 => FTb_10
  | 11 => FTb_11
  | 13 => FTb_13
  | 14 => FTb_14
  | _ => []
theorem FTb_ok : ∀ (n : Nat), ∀ e ∈ FTb n, fok (rx n) e.1 e.2.1 e.2.2 := by
  intro n e he
  unfold FTb at he
  split at he
  · exact FTb_0_ok e he
  · exact FTb_1_ok e he
  · exact FTb_2_ok e he
  · exact FTb_3_ok e he
  · exact FTb_4_ok e he
  · exact FTb_5_ok e he
  · exact FTb_6_ok e he
  · exact FTb_7_ok e he
  · exact FTb_8_ok e he
  · exact FTb_9_ok e he
  · exact FTb_10_ok e he
  · exact FTb_11_ok e he
  · exact FTb_13_ok e he
  · exact FTb_14_ok e he
  · cases he
def KTb_0 : List (Nat × Int) := [(41, 1073741824)]
set_option maxRecDepth 100000 in
theorem KTb_0_0 : ∀ e ∈ ([(41, 1073741824)] : List (Nat × Int)), Cond.constant (rx 0) e.1 (Int32.ofInt e.2) ∈ gw := (List.forall_mem_cons.mpr ⟨k_X0_41, (fun _ h => absurd h List.not_mem_nil)⟩)
set_option maxRecDepth 100000 in
theorem KTb_0_ok : ∀ e ∈ KTb_0, Cond.constant (rx 0) e.1 (Int32.ofInt e.2) ∈ gw := by
  intro e he
  have h : KTb_0 = ([(41, 1073741824)] : List (Nat × Int)) := rfl
  rw [h] at he
  exact KTb_0_0 e he
def KTb_1 : List (Nat × Int) := [(13, 61440), (165, 139264), (166, 65535), (164, 131072), (167, 65532), (176, 65520), (171, 65504), (172, 65536), (177, 65528)]
set_option maxRecDepth 100000 in
theorem KTb_1_0 : ∀ e ∈ ([(13, 61440), (165, 139264), (166, 65535), (164, 131072), (167, 65532), (176, 65520), (171, 65504), (172, 65536), (177, 65528)] : List (Nat × Int)), Cond.constant (rx 1) e.1 (Int32.ofInt e.2) ∈ gw := (List.forall_mem_cons.mpr ⟨k_X1_13, (List.forall_mem_cons.mpr ⟨k_X1_165, (List.forall_mem_cons.mpr ⟨k_X1_166, (List.forall_mem_cons.mpr ⟨k_X1_164, (List.forall_mem_cons.mpr ⟨k_X1_167, (List.forall_mem_cons.mpr ⟨k_X1_176, (List.forall_mem_cons.mpr ⟨k_X1_171, (List.forall_mem_cons.mpr ⟨k_X1_172, (List.forall_mem_cons.mpr ⟨k_X1_177, (fun _ h => absurd h List.not_mem_nil)⟩)⟩)⟩)⟩)⟩)⟩)⟩)⟩)⟩)
set_option maxRecDepth 100000 in
theorem KTb_1_ok : ∀ e ∈ KTb_1, Cond.constant (rx 1) e.1 (Int32.ofInt e.2) ∈ gw := by
  intro e he
  have h : KTb_1 = ([(13, 61440), (165, 139264), (166, 65535), (164, 131072), (167, 65532), (176, 65520), (171, 65504), (172, 65536), (177, 65528)] : List (Nat × Int)) := rfl
  rw [h] at he
  exact KTb_1_0 e he
def KTb_2 : List (Nat × Int) := [(56, 61440), (137, 131072), (141, 196608), (145, 65536), (152, 65504), (162, 65535)]
set_option maxRecDepth 100000 in
theorem KTb_2_0 : ∀ e ∈ ([(56, 61440), (137, 131072), (141, 196608), (145, 65536), (152, 65504), (162, 65535)] : List (Nat × Int)), Cond.constant (rx 2) e.1 (Int32.ofInt e.2) ∈ gw := (List.forall_mem_cons.mpr ⟨k_X2_56, (List.forall_mem_cons.mpr ⟨k_X2_137, (List.forall_mem_cons.mpr ⟨k_X2_141, (List.forall_mem_cons.mpr ⟨k_X2_145, (List.forall_mem_cons.mpr ⟨k_X2_152, (List.forall_mem_cons.mpr ⟨k_X2_162, (fun _ h => absurd h List.not_mem_nil)⟩)⟩)⟩)⟩)⟩)⟩)
set_option maxRecDepth 100000 in
theorem KTb_2_ok : ∀ e ∈ KTb_2, Cond.constant (rx 2) e.1 (Int32.ofInt e.2) ∈ gw := by
  intro e he
  have h : KTb_2 = ([(56, 61440), (137, 131072), (141, 196608), (145, 65536), (152, 65504), (162, 65535)] : List (Nat × Int)) := rfl
  rw [h] at he
  exact KTb_2_0 e he
def KTb_3 : List (Nat × Int) := [(149, 1000000)]
set_option maxRecDepth 100000 in
theorem KTb_3_0 : ∀ e ∈ ([(149, 1000000)] : List (Nat × Int)), Cond.constant (rx 3) e.1 (Int32.ofInt e.2) ∈ gw := (List.forall_mem_cons.mpr ⟨k_X3_149, (fun _ h => absurd h List.not_mem_nil)⟩)
set_option maxRecDepth 100000 in
theorem KTb_3_ok : ∀ e ∈ KTb_3, Cond.constant (rx 3) e.1 (Int32.ofInt e.2) ∈ gw := by
  intro e he
  have h : KTb_3 = ([(149, 1000000)] : List (Nat × Int)) := rfl
  rw [h] at he
  exact KTb_3_0 e he
def KTb_7 : List (Nat × Int) := [(24, 61440), (33, 65536), (141, 131072), (145, -65281), (213, 65280), (226, 65532)]
set_option maxRecDepth 100000 in
theorem KTb_7_0 : ∀ e ∈ ([(24, 61440), (33, 65536), (141, 131072), (145, -65281), (213, 65280), (226, 65532)] : List (Nat × Int)), Cond.constant (rx 7) e.1 (Int32.ofInt e.2) ∈ gw := (List.forall_mem_cons.mpr ⟨k_X7_24, (List.forall_mem_cons.mpr ⟨k_X7_33, (List.forall_mem_cons.mpr ⟨k_X7_141, (List.forall_mem_cons.mpr ⟨k_X7_145, (List.forall_mem_cons.mpr ⟨k_X7_213, (List.forall_mem_cons.mpr ⟨k_X7_226, (fun _ h => absurd h List.not_mem_nil)⟩)⟩)⟩)⟩)⟩)⟩)
set_option maxRecDepth 100000 in
theorem KTb_7_ok : ∀ e ∈ KTb_7, Cond.constant (rx 7) e.1 (Int32.ofInt e.2) ∈ gw := by
  intro e he
  have h : KTb_7 = ([(24, 61440), (33, 65536), (141, 131072), (145, -65281), (213, 65280), (226, 65532)] : List (Nat × Int)) := rfl
  rw [h] at he
  exact KTb_7_0 e he
def KTb_10 : List (Nat × Int) := [(31, 67200), (63, 134217726)]
set_option maxRecDepth 100000 in
theorem KTb_10_0 : ∀ e ∈ ([(31, 67200), (63, 134217726)] : List (Nat × Int)), Cond.constant (rx 10) e.1 (Int32.ofInt e.2) ∈ gw := (List.forall_mem_cons.mpr ⟨k_X10_31, (List.forall_mem_cons.mpr ⟨k_X10_63, (fun _ h => absurd h List.not_mem_nil)⟩)⟩)
set_option maxRecDepth 100000 in
theorem KTb_10_ok : ∀ e ∈ KTb_10, Cond.constant (rx 10) e.1 (Int32.ofInt e.2) ∈ gw := by
  intro e he
  have h : KTb_10 = ([(31, 67200), (63, 134217726)] : List (Nat × Int)) := rfl
  rw [h] at he
  exact KTb_10_0 e he
def KTb_11 : List (Nat × Int) := [(203, 300000), (240, 65535), (241, 100000), (260, 65532)]
set_option maxRecDepth 100000 in
theorem KTb_11_0 : ∀ e ∈ ([(203, 300000), (240, 65535), (241, 100000), (260, 65532)] : List (Nat × Int)), Cond.constant (rx 11) e.1 (Int32.ofInt e.2) ∈ gw := (List.forall_mem_cons.mpr ⟨k_X11_203, (List.forall_mem_cons.mpr ⟨k_X11_240, (List.forall_mem_cons.mpr ⟨k_X11_241, (List.forall_mem_cons.mpr ⟨k_X11_260, (fun _ h => absurd h List.not_mem_nil)⟩)⟩)⟩)⟩)
set_option maxRecDepth 100000 in
theorem KTb_11_ok : ∀ e ∈ KTb_11, Cond.constant (rx 11) e.1 (Int32.ofInt e.2) ∈ gw := by
  intro e he
  have h : KTb_11 = ([(203, 300000), (240, 65535), (241, 100000), (260, 65532)] : List (Nat × Int)) := rfl
  rw [h] at he
  exact KTb_11_0 e he
def KTb_13 : List (Nat × Int) := [(27, 61440)]
set_option maxRecDepth 100000 in
theorem KTb_13_0 : ∀ e ∈ ([(27, 61440)] : List (Nat × Int)), Cond.constant (rx 13) e.1 (Int32.ofInt e.2) ∈ gw := (List.forall_mem_cons.mpr ⟨k_X13_27, (fun _ h => absurd h List.not_mem_nil)⟩)
set_option maxRecDepth 100000 in
theorem KTb_13_ok : ∀ e ∈ KTb_13, Cond.constant (rx 13) e.1 (Int32.ofInt e.2) ∈ gw := by
  intro e he
  have h : KTb_13 = ([(27, 61440)] : List (Nat × Int)) := rfl
  rw [h] at he
  exact KTb_13_0 e he
def KTb_14 : List (Nat × Int) := [(54, 97600), (107, 61840), (117, 61440), (121, 65536), (410, 139264), (423, 65535), (409, 131072), (427, 65532), (469, 65520), (470, 131076), (431, 65504), (441, 65528), (731, 100000), (631, 196608), (638, -65281), (721, 65280), (782, 135168), (786, 300000)]
set_option maxRecDepth 100000 in
theorem KTb_14_0 : ∀ e ∈ ([(54, 97600), (107, 61840), (117, 61440), (121, 65536), (410, 139264), (423, 65535), (409, 131072), (427, 65532), (469, 65520), (470, 131076), (431, 65504), (441, 65528), (731, 100000), (631, 196608), (638, -65281), (721, 65280), (782, 135168), (786, 300000)] : List (Nat × Int)), Cond.constant (rx 14) e.1 (Int32.ofInt e.2) ∈ gw := (List.forall_mem_cons.mpr ⟨k_X14_54, (List.forall_mem_cons.mpr ⟨k_X14_107, (List.forall_mem_cons.mpr ⟨k_X14_117, (List.forall_mem_cons.mpr ⟨k_X14_121, (List.forall_mem_cons.mpr ⟨k_X14_410, (List.forall_mem_cons.mpr ⟨k_X14_423, (List.forall_mem_cons.mpr ⟨k_X14_409, (List.forall_mem_cons.mpr ⟨k_X14_427, (List.forall_mem_cons.mpr ⟨k_X14_469, (List.forall_mem_cons.mpr ⟨k_X14_470, (List.forall_mem_cons.mpr ⟨k_X14_431, (List.forall_mem_cons.mpr ⟨k_X14_441, (List.forall_mem_cons.mpr ⟨k_X14_731, (List.forall_mem_cons.mpr ⟨k_X14_631, (List.forall_mem_cons.mpr ⟨k_X14_638, (List.forall_mem_cons.mpr ⟨k_X14_721, (List.forall_mem_cons.mpr ⟨k_X14_782, (List.forall_mem_cons.mpr ⟨k_X14_786, (fun _ h => absurd h List.not_mem_nil)⟩)⟩)⟩)⟩)⟩)⟩)⟩)⟩)⟩)⟩)⟩)⟩)⟩)⟩)⟩)⟩)⟩)⟩)
set_option maxRecDepth 100000 in
theorem KTb_14_ok : ∀ e ∈ KTb_14, Cond.constant (rx 14) e.1 (Int32.ofInt e.2) ∈ gw := by
  intro e he
  have h : KTb_14 = ([(54, 97600), (107, 61840), (117, 61440), (121, 65536), (410, 139264), (423, 65535), (409, 131072), (427, 65532), (469, 65520), (470, 131076), (431, 65504), (441, 65528), (731, 100000), (631, 196608), (638, -65281), (721, 65280), (782, 135168), (786, 300000)] : List (Nat × Int)) := rfl
  rw [h] at he
  exact KTb_14_0 e he
def KTb_17 : List (Nat × Int) := [(265, 1431655765), (266, 858993459), (267, 252645135)]
set_option maxRecDepth 100000 in
theorem KTb_17_0 : ∀ e ∈ ([(265, 1431655765), (266, 858993459), (267, 252645135)] : List (Nat × Int)), Cond.constant (rx 17) e.1 (Int32.ofInt e.2) ∈ gw := (List.forall_mem_cons.mpr ⟨k_J6_265, (List.forall_mem_cons.mpr ⟨k_J6_266, (List.forall_mem_cons.mpr ⟨k_J6_267, (fun _ h => absurd h List.not_mem_nil)⟩)⟩)⟩)
set_option maxRecDepth 100000 in
theorem KTb_17_ok : ∀ e ∈ KTb_17, Cond.constant (rx 17) e.1 (Int32.ofInt e.2) ∈ gw := by
  intro e he
  have h : KTb_17 = ([(265, 1431655765), (266, 858993459), (267, 252645135)] : List (Nat × Int)) := rfl
  rw [h] at he
  exact KTb_17_0 e he
def KTb (n : Nat) : List (Nat × Int) := match n with
  | 0 => KTb_0
  | 1 => KTb_1
  | 2 => KTb_2
  | 3 => KTb_3
  | 7 => KTb_7
  | 10 => KTb_10
  | 11 => KTb_11
  | 13 => KTb_13
  | 14 => KTb_14
  | 17 => KTb_17
  | _ => []
theorem KTb_ok : ∀ (n : Nat), ∀ e ∈ KTb n, Cond.constant (rx n) e.1 (Int32.ofInt e.2) ∈ gw := by
  intro n e he
  unfold KTb at he
  split at he
  · exact KTb_0_ok e he
  · exact KTb_1_ok e he
  · exact KTb_2_ok e he
  · exact KTb_3_ok e he
  · exact KTb_7_ok e he
  · exact KTb_10_ok e he
  · exact KTb_11_ok e he
  · exact KTb_13_ok e he
  · exact KTb_14_ok e he
  · exact KTb_17_ok e he
  · cases he
def KLb_0 : List (Nat × Int) := [(19, 4294967295)]
set_option maxRecDepth 100000 in
theorem KLb_0_0 : ∀ e ∈ ([(19, 4294967295)] : List (Nat × Int)), Cond.constantLong (rx 0) e.1 (Int64.ofInt e.2) ∈ gw := (List.forall_mem_cons.mpr ⟨k_X0_19, (fun _ h => absurd h List.not_mem_nil)⟩)
set_option maxRecDepth 100000 in
theorem KLb_0_ok : ∀ e ∈ KLb_0, Cond.constantLong (rx 0) e.1 (Int64.ofInt e.2) ∈ gw := by
  intro e he
  have h : KLb_0 = ([(19, 4294967295)] : List (Nat × Int)) := rfl
  rw [h] at he
  exact KLb_0_0 e he
def KLb_7 : List (Nat × Int) := [(201, 4294967295), (214, 2)]
set_option maxRecDepth 100000 in
theorem KLb_7_0 : ∀ e ∈ ([(201, 4294967295), (214, 2)] : List (Nat × Int)), Cond.constantLong (rx 7) e.1 (Int64.ofInt e.2) ∈ gw := (List.forall_mem_cons.mpr ⟨k_X7_201, (List.forall_mem_cons.mpr ⟨k_X7_214, (fun _ h => absurd h List.not_mem_nil)⟩)⟩)
set_option maxRecDepth 100000 in
theorem KLb_7_ok : ∀ e ∈ KLb_7, Cond.constantLong (rx 7) e.1 (Int64.ofInt e.2) ∈ gw := by
  intro e he
  have h : KLb_7 = ([(201, 4294967295), (214, 2)] : List (Nat × Int)) := rfl
  rw [h] at he
  exact KLb_7_0 e he
def KLb_9 : List (Nat × Int) := [(100, 2)]
set_option maxRecDepth 100000 in
theorem KLb_9_0 : ∀ e ∈ ([(100, 2)] : List (Nat × Int)), Cond.constantLong (rx 9) e.1 (Int64.ofInt e.2) ∈ gw := (List.forall_mem_cons.mpr ⟨k_X9_100, (fun _ h => absurd h List.not_mem_nil)⟩)
set_option maxRecDepth 100000 in
theorem KLb_9_ok : ∀ e ∈ KLb_9, Cond.constantLong (rx 9) e.1 (Int64.ofInt e.2) ∈ gw := by
  intro e he
  have h : KLb_9 = ([(100, 2)] : List (Nat × Int)) := rfl
  rw [h] at he
  exact KLb_9_0 e he
def KLb_14 : List (Nat × Int) := [(661, 4294967295), (691, -9223372036854775808), (741, 196608)]
set_option maxRecDepth 100000 in
theorem KLb_14_0 : ∀ e ∈ ([(661, 4294967295), (691, -9223372036854775808), (741, 196608)] : List (Nat × Int)), Cond.constantLong (rx 14) e.1 (Int64.ofInt e.2) ∈ gw := (List.forall_mem_cons.mpr ⟨k_X14_661, (List.forall_mem_cons.mpr ⟨k_X14_691, (List.forall_mem_cons.mpr ⟨k_X14_741, (fun _ h => absurd h List.not_mem_nil)⟩)⟩)⟩)
set_option maxRecDepth 100000 in
theorem KLb_14_ok : ∀ e ∈ KLb_14, Cond.constantLong (rx 14) e.1 (Int64.ofInt e.2) ∈ gw := by
  intro e he
  have h : KLb_14 = ([(661, 4294967295), (691, -9223372036854775808), (741, 196608)] : List (Nat × Int)) := rfl
  rw [h] at he
  exact KLb_14_0 e he
def KLb_16 : List (Nat × Int) := [(314, 6148914691236517205), (316, 3689348814741910323), (318, 1085102592571150095), (306, -1)]
set_option maxRecDepth 100000 in
theorem KLb_16_0 : ∀ e ∈ ([(314, 6148914691236517205), (316, 3689348814741910323), (318, 1085102592571150095), (306, -1)] : List (Nat × Int)), Cond.constantLong (rx 16) e.1 (Int64.ofInt e.2) ∈ gw := (List.forall_mem_cons.mpr ⟨k_J13_314, (List.forall_mem_cons.mpr ⟨k_J13_316, (List.forall_mem_cons.mpr ⟨k_J13_318, (List.forall_mem_cons.mpr ⟨k_J13_306, (fun _ h => absurd h List.not_mem_nil)⟩)⟩)⟩)⟩)
set_option maxRecDepth 100000 in
theorem KLb_16_ok : ∀ e ∈ KLb_16, Cond.constantLong (rx 16) e.1 (Int64.ofInt e.2) ∈ gw := by
  intro e he
  have h : KLb_16 = ([(314, 6148914691236517205), (316, 3689348814741910323), (318, 1085102592571150095), (306, -1)] : List (Nat × Int)) := rfl
  rw [h] at he
  exact KLb_16_0 e he
def KLb (n : Nat) : List (Nat × Int) := match n with
  | 0 => KLb_0
  | 7 => KLb_7
  | 9 => KLb_9
  | 14 => KLb_14
  | 16 => KLb_16
  | _ => []
theorem KLb_ok : ∀ (n : Nat), ∀ e ∈ KLb n, Cond.constantLong (rx n) e.1 (Int64.ofInt e.2) ∈ gw := by
  intro n e he
  unfold KLb at he
  split at he
  · exact KLb_0_ok e he
  · exact KLb_7_ok e he
  · exact KLb_9_ok e he
  · exact KLb_14_ok e he
  · exact KLb_16_ok e he
  · cases he
def LTb_0 : List (Nat × Nat) := [(13, 3), (21, 17), (24, 19), (28, 11), (31, 9), (34, 20), (38, 16), (42, 12)]
set_option maxRecDepth 100000 in
theorem LTb_0_0 : ∀ e ∈ ([(13, 3), (21, 17), (24, 19), (28, 11), (31, 9), (34, 20), (38, 16), (42, 12)] : List (Nat × Nat)), lok (rx 0) e.1 (mt e.2).1 := (List.forall_mem_cons.mpr ⟨l_X0_13, (List.forall_mem_cons.mpr ⟨l_X0_21, (List.forall_mem_cons.mpr ⟨l_X0_24, (List.forall_mem_cons.mpr ⟨l_X0_28, (List.forall_mem_cons.mpr ⟨l_X0_31, (List.forall_mem_cons.mpr ⟨l_X0_34, (List.forall_mem_cons.mpr ⟨l_X0_38, (List.forall_mem_cons.mpr ⟨l_X0_42, (fun _ h => absurd h List.not_mem_nil)⟩)⟩)⟩)⟩)⟩)⟩)⟩)⟩)
set_option maxRecDepth 100000 in
theorem LTb_0_ok : ∀ e ∈ LTb_0, lok (rx 0) e.1 (mt e.2).1 := by
  intro e he
  have h : LTb_0 = ([(13, 3), (21, 17), (24, 19), (28, 11), (31, 9), (34, 20), (38, 16), (42, 12)] : List (Nat × Nat)) := rfl
  rw [h] at he
  exact LTb_0_0 e he
def LTb_1 : List (Nat × Nat) := [(49, 250), (52, 4), (58, 224), (62, 252), (81, 223), (85, 247), (88, 229), (91, 234), (94, 235), (97, 231), (103, 239), (106, 237), (110, 242), (113, 243), (117, 352), (121, 236), (124, 244), (127, 228), (130, 232), (133, 227), (136, 245), (139, 225), (142, 246), (145, 233), (148, 230), (151, 238), (154, 226), (157, 251), (161, 248), (168, 241), (173, 240)]
set_option maxRecDepth 100000 in
theorem LTb_1_0 : ∀ e ∈ ([(49, 250), (52, 4), (58, 224), (62, 252), (81, 223), (85, 247), (88, 229), (91, 234), (94, 235), (97, 231), (103, 239), (106, 237), (110, 242), (113, 243), (117, 352), (121, 236), (124, 244), (127, 228), (130, 232), (133, 227), (136, 245), (139, 225), (142, 246), (145, 233), (148, 230), (151, 238), (154, 226), (157, 251), (161, 248), (168, 241)] : List (Nat × Nat)), lok (rx 1) e.1 (mt e.2).1 := (List.forall_mem_cons.mpr ⟨l_X1_49, (List.forall_mem_cons.mpr ⟨l_X1_52, (List.forall_mem_cons.mpr ⟨l_X1_58, (List.forall_mem_cons.mpr ⟨l_X1_62, (List.forall_mem_cons.mpr ⟨l_X1_81, (List.forall_mem_cons.mpr ⟨l_X1_85, (List.forall_mem_cons.mpr ⟨l_X1_88, (List.forall_mem_cons.mpr ⟨l_X1_91, (List.forall_mem_cons.mpr ⟨l_X1_94, (List.forall_mem_cons.mpr ⟨l_X1_97, (List.forall_mem_cons.mpr ⟨l_X1_103, (List.forall_mem_cons.mpr ⟨l_X1_106, (List.forall_mem_cons.mpr ⟨l_X1_110, (List.forall_mem_cons.mpr ⟨l_X1_113, (List.forall_mem_cons.mpr ⟨l_X1_117, (List.forall_mem_cons.mpr ⟨l_X1_121, (List.forall_mem_cons.mpr ⟨l_X1_124, (List.forall_mem_cons.mpr ⟨l_X1_127, (List.forall_mem_cons.mpr ⟨l_X1_130, (List.forall_mem_cons.mpr ⟨l_X1_133, (List.forall_mem_cons.mpr ⟨l_X1_136, (List.forall_mem_cons.mpr ⟨l_X1_139, (List.forall_mem_cons.mpr ⟨l_X1_142, (List.forall_mem_cons.mpr ⟨l_X1_145, (List.forall_mem_cons.mpr ⟨l_X1_148, (List.forall_mem_cons.mpr ⟨l_X1_151, (List.forall_mem_cons.mpr ⟨l_X1_154, (List.forall_mem_cons.mpr ⟨l_X1_157, (List.forall_mem_cons.mpr ⟨l_X1_161, (List.forall_mem_cons.mpr ⟨l_X1_168, (fun _ h => absurd h List.not_mem_nil)⟩)⟩)⟩)⟩)⟩)⟩)⟩)⟩)⟩)⟩)⟩)⟩)⟩)⟩)⟩)⟩)⟩)⟩)⟩)⟩)⟩)⟩)⟩)⟩)⟩)⟩)⟩)⟩)⟩)⟩)
set_option maxRecDepth 100000 in
theorem LTb_1_1 : ∀ e ∈ ([(173, 240)] : List (Nat × Nat)), lok (rx 1) e.1 (mt e.2).1 := (List.forall_mem_cons.mpr ⟨l_X1_173, (fun _ h => absurd h List.not_mem_nil)⟩)
set_option maxRecDepth 100000 in
theorem LTb_1_ok : ∀ e ∈ LTb_1, lok (rx 1) e.1 (mt e.2).1 := by
  intro e he
  have h : LTb_1 = ([(49, 250), (52, 4), (58, 224), (62, 252), (81, 223), (85, 247), (88, 229), (91, 234), (94, 235), (97, 231), (103, 239), (106, 237), (110, 242), (113, 243), (117, 352), (121, 236), (124, 244), (127, 228), (130, 232), (133, 227), (136, 245), (139, 225), (142, 246), (145, 233), (148, 230), (151, 238), (154, 226), (157, 251), (161, 248), (168, 241)] : List (Nat × Nat)) ++ ([(173, 240)] : List (Nat × Nat)) := rfl
  rw [h] at he
  simp only [List.mem_append] at he
  rcases he with (he | he)
  · exact LTb_1_0 e he
  · exact LTb_1_1 e he
def LTb_2 : List (Nat × Nat) := [(63, 256), (66, 257), (75, 5), (81, 295), (85, 261), (89, 253), (95, 262), (102, 254), (105, 259), (109, 268), (113, 266), (116, 267), (122, 260), (128, 264), (153, 255), (156, 263)]
set_option maxRecDepth 100000 in
theorem LTb_2_0 : ∀ e ∈ ([(63, 256), (66, 257), (75, 5), (81, 295), (85, 261), (89, 253), (95, 262), (102, 254), (105, 259), (109, 268), (113, 266), (116, 267), (122, 260), (128, 264), (153, 255), (156, 263)] : List (Nat × Nat)), lok (rx 2) e.1 (mt e.2).1 := (List.forall_mem_cons.mpr ⟨l_X2_63, (List.forall_mem_cons.mpr ⟨l_X2_66, (List.forall_mem_cons.mpr ⟨l_X2_75, (List.forall_mem_cons.mpr ⟨l_X2_81, (List.forall_mem_cons.mpr ⟨l_X2_85, (List.forall_mem_cons.mpr ⟨l_X2_89, (List.forall_mem_cons.mpr ⟨l_X2_95, (List.forall_mem_cons.mpr ⟨l_X2_102, (List.forall_mem_cons.mpr ⟨l_X2_105, (List.forall_mem_cons.mpr ⟨l_X2_109, (List.forall_mem_cons.mpr ⟨l_X2_113, (List.forall_mem_cons.mpr ⟨l_X2_116, (List.forall_mem_cons.mpr ⟨l_X2_122, (List.forall_mem_cons.mpr ⟨l_X2_128, (List.forall_mem_cons.mpr ⟨l_X2_153, (List.forall_mem_cons.mpr ⟨l_X2_156, (fun _ h => absurd h List.not_mem_nil)⟩)⟩)⟩)⟩)⟩)⟩)⟩)⟩)⟩)⟩)⟩)⟩)⟩)⟩)⟩)⟩)
set_option maxRecDepth 100000 in
theorem LTb_2_ok : ∀ e ∈ LTb_2, lok (rx 2) e.1 (mt e.2).1 := by
  intro e he
  have h : LTb_2 = ([(63, 256), (66, 257), (75, 5), (81, 295), (85, 261), (89, 253), (95, 262), (102, 254), (105, 259), (109, 268), (113, 266), (116, 267), (122, 260), (128, 264), (153, 255), (156, 263)] : List (Nat × Nat)) := rfl
  rw [h] at he
  exact LTb_2_0 e he
def LTb_3 : List (Nat × Nat) := [(40, 275), (43, 277), (50, 285), (60, 269), (64, 294), (67, 281), (70, 276), (76, 282), (86, 270), (96, 25), (103, 272), (107, 284), (111, 283), (150, 289), (153, 287), (156, 288), (159, 291), (162, 292), (165, 290), (168, 286), (171, 3), (176, 293), (180, 271), (183, 279), (186, 278), (192, 352), (195, 280), (201, 273)]
set_option maxRecDepth 100000 in
theorem LTb_3_0 : ∀ e ∈ ([(40, 275), (43, 277), (50, 285), (60, 269), (64, 294), (67, 281), (70, 276), (76, 282), (86, 270), (96, 25), (103, 272), (107, 284), (111, 283), (150, 289), (153, 287), (156, 288), (159, 291), (162, 292), (165, 290), (168, 286), (171, 3), (176, 293), (180, 271), (183, 279), (186, 278), (192, 352), (195, 280), (201, 273)] : List (Nat × Nat)), lok (rx 3) e.1 (mt e.2).1 := (List.forall_mem_cons.mpr ⟨l_X3_40, (List.forall_mem_cons.mpr ⟨l_X3_43, (List.forall_mem_cons.mpr ⟨l_X3_50, (List.forall_mem_cons.mpr ⟨l_X3_60, (List.forall_mem_cons.mpr ⟨l_X3_64, (List.forall_mem_cons.mpr ⟨l_X3_67, (List.forall_mem_cons.mpr ⟨l_X3_70, (List.forall_mem_cons.mpr ⟨l_X3_76, (List.forall_mem_cons.mpr ⟨l_X3_86, (List.forall_mem_cons.mpr ⟨l_X3_96, (List.forall_mem_cons.mpr ⟨l_X3_103, (List.forall_mem_cons.mpr ⟨l_X3_107, (List.forall_mem_cons.mpr ⟨l_X3_111, (List.forall_mem_cons.mpr ⟨l_X3_150, (List.forall_mem_cons.mpr ⟨l_X3_153, (List.forall_mem_cons.mpr ⟨l_X3_156, (List.forall_mem_cons.mpr ⟨l_X3_159, (List.forall_mem_cons.mpr ⟨l_X3_162, (List.forall_mem_cons.mpr ⟨l_X3_165, (List.forall_mem_cons.mpr ⟨l_X3_168, (List.forall_mem_cons.mpr ⟨l_X3_171, (List.forall_mem_cons.mpr ⟨l_X3_176, (List.forall_mem_cons.mpr ⟨l_X3_180, (List.forall_mem_cons.mpr ⟨l_X3_183, (List.forall_mem_cons.mpr ⟨l_X3_186, (List.forall_mem_cons.mpr ⟨l_X3_192, (List.forall_mem_cons.mpr ⟨l_X3_195, (List.forall_mem_cons.mpr ⟨l_X3_201, (fun _ h => absurd h List.not_mem_nil)⟩)⟩)⟩)⟩)⟩)⟩)⟩)⟩)⟩)⟩)⟩)⟩)⟩)⟩)⟩)⟩)⟩)⟩)⟩)⟩)⟩)⟩)⟩)⟩)⟩)⟩)⟩)⟩)
set_option maxRecDepth 100000 in
theorem LTb_3_ok : ∀ e ∈ LTb_3, lok (rx 3) e.1 (mt e.2).1 := by
  intro e he
  have h : LTb_3 = ([(40, 275), (43, 277), (50, 285), (60, 269), (64, 294), (67, 281), (70, 276), (76, 282), (86, 270), (96, 25), (103, 272), (107, 284), (111, 283), (150, 289), (153, 287), (156, 288), (159, 291), (162, 292), (165, 290), (168, 286), (171, 3), (176, 293), (180, 271), (183, 279), (186, 278), (192, 352), (195, 280), (201, 273)] : List (Nat × Nat)) := rfl
  rw [h] at he
  exact LTb_3_0 e he
def LTb_4 : List (Nat × Nat) := [(71, 303), (75, 301), (79, 296), (82, 304), (85, 298), (88, 299), (91, 297), (94, 300), (97, 305), (101, 306), (105, 302)]
set_option maxRecDepth 100000 in
theorem LTb_4_0 : ∀ e ∈ ([(71, 303), (75, 301), (79, 296), (82, 304), (85, 298), (88, 299), (91, 297), (94, 300), (97, 305), (101, 306), (105, 302)] : List (Nat × Nat)), lok (rx 4) e.1 (mt e.2).1 := (List.forall_mem_cons.mpr ⟨l_X4_71, (List.forall_mem_cons.mpr ⟨l_X4_75, (List.forall_mem_cons.mpr ⟨l_X4_79, (List.forall_mem_cons.mpr ⟨l_X4_82, (List.forall_mem_cons.mpr ⟨l_X4_85, (List.forall_mem_cons.mpr ⟨l_X4_88, (List.forall_mem_cons.mpr ⟨l_X4_91, (List.forall_mem_cons.mpr ⟨l_X4_94, (List.forall_mem_cons.mpr ⟨l_X4_97, (List.forall_mem_cons.mpr ⟨l_X4_101, (List.forall_mem_cons.mpr ⟨l_X4_105, (fun _ h => absurd h List.not_mem_nil)⟩)⟩)⟩)⟩)⟩)⟩)⟩)⟩)⟩)⟩)⟩)
set_option maxRecDepth 100000 in
theorem LTb_4_ok : ∀ e ∈ LTb_4, lok (rx 4) e.1 (mt e.2).1 := by
  intro e he
  have h : LTb_4 = ([(71, 303), (75, 301), (79, 296), (82, 304), (85, 298), (88, 299), (91, 297), (94, 300), (97, 305), (101, 306), (105, 302)] : List (Nat × Nat)) := rfl
  rw [h] at he
  exact LTb_4_0 e he
def LTb_5 : List (Nat × Nat) := [(32, 307), (35, 318), (38, 313), (41, 311), (44, 316), (48, 312), (51, 314), (70, 317), (74, 308), (87, 321), (91, 310), (101, 309), (104, 319), (108, 25), (112, 0), (121, 322), (125, 320)]
set_option maxRecDepth 100000 in
theorem LTb_5_0 : ∀ e ∈ ([(32, 307), (35, 318), (38, 313), (41, 311), (44, 316), (48, 312), (51, 314), (70, 317), (74, 308), (87, 321), (91, 310), (101, 309), (104, 319), (108, 25), (112, 0), (121, 322), (125, 320)] : List (Nat × Nat)), lok (rx 5) e.1 (mt e.2).1 := (List.forall_mem_cons.mpr ⟨l_X5_32, (List.forall_mem_cons.mpr ⟨l_X5_35, (List.forall_mem_cons.mpr ⟨l_X5_38, (List.forall_mem_cons.mpr ⟨l_X5_41, (List.forall_mem_cons.mpr ⟨l_X5_44, (List.forall_mem_cons.mpr ⟨l_X5_48, (List.forall_mem_cons.mpr ⟨l_X5_51, (List.forall_mem_cons.mpr ⟨l_X5_70, (List.forall_mem_cons.mpr ⟨l_X5_74, (List.forall_mem_cons.mpr ⟨l_X5_87, (List.forall_mem_cons.mpr ⟨l_X5_91, (List.forall_mem_cons.mpr ⟨l_X5_101, (List.forall_mem_cons.mpr ⟨l_X5_104, (List.forall_mem_cons.mpr ⟨l_X5_108, (List.forall_mem_cons.mpr ⟨l_X5_112, (List.forall_mem_cons.mpr ⟨l_X5_121, (List.forall_mem_cons.mpr ⟨l_X5_125, (fun _ h => absurd h List.not_mem_nil)⟩)⟩)⟩)⟩)⟩)⟩)⟩)⟩)⟩)⟩)⟩)⟩)⟩)⟩)⟩)⟩)⟩)
set_option maxRecDepth 100000 in
theorem LTb_5_ok : ∀ e ∈ LTb_5, lok (rx 5) e.1 (mt e.2).1 := by
  intro e he
  have h : LTb_5 = ([(32, 307), (35, 318), (38, 313), (41, 311), (44, 316), (48, 312), (51, 314), (70, 317), (74, 308), (87, 321), (91, 310), (101, 309), (104, 319), (108, 25), (112, 0), (121, 322), (125, 320)] : List (Nat × Nat)) := rfl
  rw [h] at he
  exact LTb_5_0 e he
def LTb_6 : List (Nat × Nat) := [(45, 324), (49, 343)]
set_option maxRecDepth 100000 in
theorem LTb_6_0 : ∀ e ∈ ([(45, 324), (49, 343)] : List (Nat × Nat)), lok (rx 6) e.1 (mt e.2).1 := (List.forall_mem_cons.mpr ⟨l_X6_45, (List.forall_mem_cons.mpr ⟨l_X6_49, (fun _ h => absurd h List.not_mem_nil)⟩)⟩)
set_option maxRecDepth 100000 in
theorem LTb_6_ok : ∀ e ∈ LTb_6, lok (rx 6) e.1 (mt e.2).1 := by
  intro e he
  have h : LTb_6 = ([(45, 324), (49, 343)] : List (Nat × Nat)) := rfl
  rw [h] at he
  exact LTb_6_0 e he
def LTb_7 : List (Nat × Nat) := [(73, 4), (79, 351), (83, 5), (89, 333), (93, 346), (97, 295), (107, 332), (113, 325), (116, 326), (119, 337), (122, 335), (137, 344), (149, 341), (153, 343), (156, 347), (159, 342), (168, 8), (172, 350), (178, 18), (182, 349), (185, 11), (188, 9), (191, 15), (194, 13), (197, 14), (203, 348), (207, 328), (210, 329), (216, 10), (220, 340), (223, 338), (227, 334)]
set_option maxRecDepth 100000 in
theorem LTb_7_0 : ∀ e ∈ ([(73, 4), (79, 351), (83, 5), (89, 333), (93, 346), (97, 295), (107, 332), (113, 325), (116, 326), (119, 337), (122, 335), (137, 344), (149, 341), (153, 343), (156, 347), (159, 342), (168, 8), (172, 350), (178, 18), (182, 349), (185, 11), (188, 9), (191, 15), (194, 13), (197, 14), (203, 348), (207, 328), (210, 329), (216, 10), (220, 340)] : List (Nat × Nat)), lok (rx 7) e.1 (mt e.2).1 := (List.forall_mem_cons.mpr ⟨l_X7_73, (List.forall_mem_cons.mpr ⟨l_X7_79, (List.forall_mem_cons.mpr ⟨l_X7_83, (List.forall_mem_cons.mpr ⟨l_X7_89, (List.forall_mem_cons.mpr ⟨l_X7_93, (List.forall_mem_cons.mpr ⟨l_X7_97, (List.forall_mem_cons.mpr ⟨l_X7_107, (List.forall_mem_cons.mpr ⟨l_X7_113, (List.forall_mem_cons.mpr ⟨l_X7_116, (List.forall_mem_cons.mpr ⟨l_X7_119, (List.forall_mem_cons.mpr ⟨l_X7_122, (List.forall_mem_cons.mpr ⟨l_X7_137, (List.forall_mem_cons.mpr ⟨l_X7_149, (List.forall_mem_cons.mpr ⟨l_X7_153, (List.forall_mem_cons.mpr ⟨l_X7_156, (List.forall_mem_cons.mpr ⟨l_X7_159, (List.forall_mem_cons.mpr ⟨l_X7_168, (List.forall_mem_cons.mpr ⟨l_X7_172, (List.forall_mem_cons.mpr ⟨l_X7_178, (List.forall_mem_cons.mpr ⟨l_X7_182, (List.forall_mem_cons.mpr ⟨l_X7_185, (List.forall_mem_cons.mpr ⟨l_X7_188, (List.forall_mem_cons.mpr ⟨l_X7_191, (List.forall_mem_cons.mpr ⟨l_X7_194, (List.forall_mem_cons.mpr ⟨l_X7_197, (List.forall_mem_cons.mpr ⟨l_X7_203, (List.forall_mem_cons.mpr ⟨l_X7_207, (List.forall_mem_cons.mpr ⟨l_X7_210, (List.forall_mem_cons.mpr ⟨l_X7_216, (List.forall_mem_cons.mpr ⟨l_X7_220, (fun _ h => absurd h List.not_mem_nil)⟩)⟩)⟩)⟩)⟩)⟩)⟩)⟩)⟩)⟩)⟩)⟩)⟩)⟩)⟩)⟩)⟩)⟩)⟩)⟩)⟩)⟩)⟩)⟩)⟩)⟩)⟩)⟩)⟩)⟩)
set_option maxRecDepth 100000 in
theorem LTb_7_1 : ∀ e ∈ ([(223, 338), (227, 334)] : List (Nat × Nat)), lok (rx 7) e.1 (mt e.2).1 := (List.forall_mem_cons.mpr ⟨l_X7_223, (List.forall_mem_cons.mpr ⟨l_X7_227, (fun _ h => absurd h List.not_mem_nil)⟩)⟩)
set_option maxRecDepth 100000 in
theorem LTb_7_ok : ∀ e ∈ LTb_7, lok (rx 7) e.1 (mt e.2).1 := by
  intro e he
  have h : LTb_7 = ([(73, 4), (79, 351), (83, 5), (89, 333), (93, 346), (97, 295), (107, 332), (113, 325), (116, 326), (119, 337), (122, 335), (137, 344), (149, 341), (153, 343), (156, 347), (159, 342), (168, 8), (172, 350), (178, 18), (182, 349), (185, 11), (188, 9), (191, 15), (194, 13), (197, 14), (203, 348), (207, 328), (210, 329), (216, 10), (220, 340)] : List (Nat × Nat)) ++ ([(223, 338), (227, 334)] : List (Nat × Nat)) := rfl
  rw [h] at he
  simp only [List.mem_append] at he
  rcases he with (he | he)
  · exact LTb_7_0 e he
  · exact LTb_7_1 e he
def LTb_9 : List (Nat × Nat) := [(29, 23), (34, 371), (37, 365), (41, 369), (45, 361), (56, 374), (62, 356), (75, 370), (78, 372), (81, 366), (84, 27), (88, 24), (91, 373), (94, 362), (97, 28), (102, 367), (105, 21), (109, 363), (112, 364), (115, 360), (121, 359), (124, 357), (127, 353), (130, 22), (134, 355), (138, 26), (142, 29), (145, 358), (148, 354)]
set_option maxRecDepth 100000 in
theorem LTb_9_0 : ∀ e ∈ ([(29, 23), (34, 371), (37, 365), (41, 369), (45, 361), (56, 374), (62, 356), (75, 370), (78, 372), (81, 366), (84, 27), (88, 24), (91, 373), (94, 362), (97, 28), (102, 367), (105, 21), (109, 363), (112, 364), (115, 360), (121, 359), (124, 357), (127, 353), (130, 22), (134, 355), (138, 26), (142, 29), (145, 358), (148, 354)] : List (Nat × Nat)), lok (rx 9) e.1 (mt e.2).1 := (List.forall_mem_cons.mpr ⟨l_X9_29, (List.forall_mem_cons.mpr ⟨l_X9_34, (List.forall_mem_cons.mpr ⟨l_X9_37, (List.forall_mem_cons.mpr ⟨l_X9_41, (List.forall_mem_cons.mpr ⟨l_X9_45, (List.forall_mem_cons.mpr ⟨l_X9_56, (List.forall_mem_cons.mpr ⟨l_X9_62, (List.forall_mem_cons.mpr ⟨l_X9_75, (List.forall_mem_cons.mpr ⟨l_X9_78, (List.forall_mem_cons.mpr ⟨l_X9_81, (List.forall_mem_cons.mpr ⟨l_X9_84, (List.forall_mem_cons.mpr ⟨l_X9_88, (List.forall_mem_cons.mpr ⟨l_X9_91, (List.forall_mem_cons.mpr ⟨l_X9_94, (List.forall_mem_cons.mpr ⟨l_X9_97, (List.forall_mem_cons.mpr ⟨l_X9_102, (List.forall_mem_cons.mpr ⟨l_X9_105, (List.forall_mem_cons.mpr ⟨l_X9_109, (List.forall_mem_cons.mpr ⟨l_X9_112, (List.forall_mem_cons.mpr ⟨l_X9_115, (List.forall_mem_cons.mpr ⟨l_X9_121, (List.forall_mem_cons.mpr ⟨l_X9_124, (List.forall_mem_cons.mpr ⟨l_X9_127, (List.forall_mem_cons.mpr ⟨l_X9_130, (List.forall_mem_cons.mpr ⟨l_X9_134, (List.forall_mem_cons.mpr ⟨l_X9_138, (List.forall_mem_cons.mpr ⟨l_X9_142, (List.forall_mem_cons.mpr ⟨l_X9_145, (List.forall_mem_cons.mpr ⟨l_X9_148, (fun _ h => absurd h List.not_mem_nil)⟩)⟩)⟩)⟩)⟩)⟩)⟩)⟩)⟩)⟩)⟩)⟩)⟩)⟩)⟩)⟩)⟩)⟩)⟩)⟩)⟩)⟩)⟩)⟩)⟩)⟩)⟩)⟩)⟩)
set_option maxRecDepth 100000 in
theorem LTb_9_ok : ∀ e ∈ LTb_9, lok (rx 9) e.1 (mt e.2).1 := by
  intro e he
  have h : LTb_9 = ([(29, 23), (34, 371), (37, 365), (41, 369), (45, 361), (56, 374), (62, 356), (75, 370), (78, 372), (81, 366), (84, 27), (88, 24), (91, 373), (94, 362), (97, 28), (102, 367), (105, 21), (109, 363), (112, 364), (115, 360), (121, 359), (124, 357), (127, 353), (130, 22), (134, 355), (138, 26), (142, 29), (145, 358), (148, 354)] : List (Nat × Nat)) := rfl
  rw [h] at he
  exact LTb_9_0 e he
def LTb_10 : List (Nat × Nat) := [(57, 6), (64, 28), (68, 21)]
set_option maxRecDepth 100000 in
theorem LTb_10_0 : ∀ e ∈ ([(57, 6), (64, 28), (68, 21)] : List (Nat × Nat)), lok (rx 10) e.1 (mt e.2).1 := (List.forall_mem_cons.mpr ⟨l_X10_57, (List.forall_mem_cons.mpr ⟨l_X10_64, (List.forall_mem_cons.mpr ⟨l_X10_68, (fun _ h => absurd h List.not_mem_nil)⟩)⟩)⟩)
set_option maxRecDepth 100000 in
theorem LTb_10_ok : ∀ e ∈ LTb_10, lok (rx 10) e.1 (mt e.2).1 := by
  intro e he
  have h : LTb_10 = ([(57, 6), (64, 28), (68, 21)] : List (Nat × Nat)) := rfl
  rw [h] at he
  exact LTb_10_0 e he
def LTb_11 : List (Nat × Nat) := [(101, 30), (105, 368), (112, 44), (116, 315), (121, 274), (125, 249), (178, 345), (182, 327), (185, 330), (188, 331), (192, 339), (196, 258), (199, 31), (204, 336), (208, 323), (227, 333), (231, 265), (261, 351), (264, 343)]
set_option maxRecDepth 100000 in
theorem LTb_11_0 : ∀ e ∈ ([(101, 30), (105, 368), (112, 44), (116, 315), (121, 274), (125, 249), (178, 345), (182, 327), (185, 330), (188, 331), (192, 339), (196, 258), (199, 31), (204, 336), (208, 323), (227, 333), (231, 265), (261, 351), (264, 343)] : List (Nat × Nat)), lok (rx 11) e.1 (mt e.2).1 := (List.forall_mem_cons.mpr ⟨l_X11_101, (List.forall_mem_cons.mpr ⟨l_X11_105, (List.forall_mem_cons.mpr ⟨l_X11_112, (List.forall_mem_cons.mpr ⟨l_X11_116, (List.forall_mem_cons.mpr ⟨l_X11_121, (List.forall_mem_cons.mpr ⟨l_X11_125, (List.forall_mem_cons.mpr ⟨l_X11_178, (List.forall_mem_cons.mpr ⟨l_X11_182, (List.forall_mem_cons.mpr ⟨l_X11_185, (List.forall_mem_cons.mpr ⟨l_X11_188, (List.forall_mem_cons.mpr ⟨l_X11_192, (List.forall_mem_cons.mpr ⟨l_X11_196, (List.forall_mem_cons.mpr ⟨l_X11_199, (List.forall_mem_cons.mpr ⟨l_X11_204, (List.forall_mem_cons.mpr ⟨l_X11_208, (List.forall_mem_cons.mpr ⟨l_X11_227, (List.forall_mem_cons.mpr ⟨l_X11_231, (List.forall_mem_cons.mpr ⟨l_X11_261, (List.forall_mem_cons.mpr ⟨l_X11_264, (fun _ h => absurd h List.not_mem_nil)⟩)⟩)⟩)⟩)⟩)⟩)⟩)⟩)⟩)⟩)⟩)⟩)⟩)⟩)⟩)⟩)⟩)⟩)⟩)
set_option maxRecDepth 100000 in
theorem LTb_11_ok : ∀ e ∈ LTb_11, lok (rx 11) e.1 (mt e.2).1 := by
  intro e he
  have h : LTb_11 = ([(101, 30), (105, 368), (112, 44), (116, 315), (121, 274), (125, 249), (178, 345), (182, 327), (185, 330), (188, 331), (192, 339), (196, 258), (199, 31), (204, 336), (208, 323), (227, 333), (231, 265), (261, 351), (264, 343)] : List (Nat × Nat)) := rfl
  rw [h] at he
  exact LTb_11_0 e he
def LTb_14 : List (Nat × Nat) := [(173, 177), (177, 201), (180, 154), (187, 65), (206, 161), (209, 162), (212, 78), (215, 196), (218, 175), (222, 66), (225, 181), (228, 172), (231, 206), (234, 182), (237, 148), (240, 75), (243, 121), (247, 103), (250, 156), (254, 139), (257, 59), (261, 193), (264, 105), (267, 58), (271, 129), (274, 79), (277, 166), (280, 163), (283, 208), (286, 109), (289, 67), (293, 151), (296, 152), (299, 153), (315, 54), (319, 3), (324, 155), (327, 171), (330, 55), (332, 69), (336, 210), (339, 93), (342, 95), (345, 96), (348, 98), (351, 97), (354, 94), (357, 158), (360, 211), (363, 120), (366, 119), (371, 142), (374, 141), (377, 198), (385, 60), (391, 173), (400, 178), (404, 174), (406, 113), (411, 92), (414, 117), (417, 125), (420, 159), (424, 70), (428, 149), (435, 146), (438, 160), (442, 143), (445, 170), (448, 144), (451, 164), (454, 130), (457, 168), (460, 126), (463, 115), (466, 102), (471, 215), (474, 169), (477, 217), (480, 116), (483, 165), (486, 145), (489, 203), (492, 64), (495, 214), (498, 100), (501, 147), (510, 221), (513, 200), (522, 212), (525, 140), (528, 80), (531, 123), (544, 72), (547, 187), (574, 188), (577, 190), (601, 86), (604, 90), (607, 89), (610, 87), (613, 88), (617, 189), (620, 127), (623, 136), (626, 167), (628, 85), (632, 57), (635, 132), (639, 73), (642, 82), (645, 74), (648, 83), (654, 111), (658, 137), (663, 180), (666, 71), (669, 56), (672, 68), (675, 209), (678, 216), (682, 1), (688, 2), (696, 84), (699, 91), (702, 138), (706, 218), (709, 207), (712, 213), (715, 183), (718, 199), (722, 122), (725, 118), (728, 185), (732, 202), (735, 134), (738, 135), (743, 131), (758, 108), (761, 112), (767, 191), (770, 220), (773, 128), (776, 222), (779, 77), (783, 61), (790, 195), (801, 133), (804, 219), (807, 62), (810, 110), (813, 101)]
set_option maxRecDepth 100000 in
theorem LTb_14_0 : ∀ e ∈ ([(173, 177), (177, 201), (180, 154), (187, 65), (206, 161), (209, 162), (212, 78), (215, 196), (218, 175), (222, 66), (225, 181), (228, 172), (231, 206), (234, 182), (237, 148), (240, 75), (243, 121), (247, 103), (250, 156), (254, 139), (257, 59), (261, 193), (264, 105), (267, 58), (271, 129), (274, 79), (277, 166), (280, 163), (283, 208), (286, 109)] : List (Nat × Nat)), lok (rx 14) e.1 (mt e.2).1 := (List.forall_mem_cons.mpr ⟨l_X14_173, (List.forall_mem_cons.mpr ⟨l_X14_177, (List.forall_mem_cons.mpr ⟨l_X14_180, (List.forall_mem_cons.mpr ⟨l_X14_187, (List.forall_mem_cons.mpr ⟨l_X14_206, (List.forall_mem_cons.mpr ⟨l_X14_209, (List.forall_mem_cons.mpr ⟨l_X14_212, (List.forall_mem_cons.mpr ⟨l_X14_215, (List.forall_mem_cons.mpr ⟨l_X14_218, (List.forall_mem_cons.mpr ⟨l_X14_222, (List.forall_mem_cons.mpr ⟨l_X14_225, (List.forall_mem_cons.mpr ⟨l_X14_228, (List.forall_mem_cons.mpr ⟨l_X14_231, (List.forall_mem_cons.mpr ⟨l_X14_234, (List.forall_mem_cons.mpr ⟨l_X14_237, (List.forall_mem_cons.mpr ⟨l_X14_240, (List.forall_mem_cons.mpr ⟨l_X14_243, (List.forall_mem_cons.mpr ⟨l_X14_247, (List.forall_mem_cons.mpr ⟨l_X14_250, (List.forall_mem_cons.mpr ⟨l_X14_254, (List.forall_mem_cons.mpr ⟨l_X14_257, (List.forall_mem_cons.mpr ⟨l_X14_261, (List.forall_mem_cons.mpr ⟨l_X14_264, (List.forall_mem_cons.mpr ⟨l_X14_267, (List.forall_mem_cons.mpr ⟨l_X14_271, (List.forall_mem_cons.mpr ⟨l_X14_274, (List.forall_mem_cons.mpr ⟨l_X14_277, (List.forall_mem_cons.mpr ⟨l_X14_280, (List.forall_mem_cons.mpr ⟨l_X14_283, (List.forall_mem_cons.mpr ⟨l_X14_286, (fun _ h => absurd h List.not_mem_nil)⟩)⟩)⟩)⟩)⟩)⟩)⟩)⟩)⟩)⟩)⟩)⟩)⟩)⟩)⟩)⟩)⟩)⟩)⟩)⟩)⟩)⟩)⟩)⟩)⟩)⟩)⟩)⟩)⟩)⟩)
set_option maxRecDepth 100000 in
theorem LTb_14_1 : ∀ e ∈ ([(289, 67), (293, 151), (296, 152), (299, 153), (315, 54), (319, 3), (324, 155), (327, 171), (330, 55), (332, 69), (336, 210), (339, 93), (342, 95), (345, 96), (348, 98), (351, 97), (354, 94), (357, 158), (360, 211), (363, 120), (366, 119), (371, 142), (374, 141), (377, 198), (385, 60), (391, 173), (400, 178), (404, 174), (406, 113), (411, 92)] : List (Nat × Nat)), lok (rx 14) e.1 (mt e.2).1 := (List.forall_mem_cons.mpr ⟨l_X14_289, (List.forall_mem_cons.mpr ⟨l_X14_293, (List.forall_mem_cons.mpr ⟨l_X14_296, (List.forall_mem_cons.mpr ⟨l_X14_299, (List.forall_mem_cons.mpr ⟨l_X14_315, (List.forall_mem_cons.mpr ⟨l_X14_319, (List.forall_mem_cons.mpr ⟨l_X14_324, (List.forall_mem_cons.mpr ⟨l_X14_327, (List.forall_mem_cons.mpr ⟨l_X14_330, (List.forall_mem_cons.mpr ⟨l_X14_332, (List.forall_mem_cons.mpr ⟨l_X14_336, (List.forall_mem_cons.mpr ⟨l_X14_339, (List.forall_mem_cons.mpr ⟨l_X14_342, (List.forall_mem_cons.mpr ⟨l_X14_345, (List.forall_mem_cons.mpr ⟨l_X14_348, (List.forall_mem_cons.mpr ⟨l_X14_351, (List.forall_mem_cons.mpr ⟨l_X14_354, (List.forall_mem_cons.mpr ⟨l_X14_357, (List.forall_mem_cons.mpr ⟨l_X14_360, (List.forall_mem_cons.mpr ⟨l_X14_363, (List.forall_mem_cons.mpr ⟨l_X14_366, (List.forall_mem_cons.mpr ⟨l_X14_371, (List.forall_mem_cons.mpr ⟨l_X14_374, (List.forall_mem_cons.mpr ⟨l_X14_377, (List.forall_mem_cons.mpr ⟨l_X14_385, (List.forall_mem_cons.mpr ⟨l_X14_391, (List.forall_mem_cons.mpr ⟨l_X14_400, (List.forall_mem_cons.mpr ⟨l_X14_404, (List.forall_mem_cons.mpr ⟨l_X14_406, (List.forall_mem_cons.mpr ⟨l_X14_411, (fun _ h => absurd h List.not_mem_nil)⟩)⟩)⟩)⟩)⟩)⟩)⟩)⟩)⟩)⟩)⟩)⟩)⟩)⟩)⟩)⟩)⟩)⟩)⟩)⟩)⟩)⟩)⟩)⟩)⟩)⟩)⟩)⟩)⟩)⟩)
set_option maxRecDepth 100000 in
theorem LTb_14_2 : ∀ e ∈ ([(414, 117), (417, 125), (420, 159), (424, 70), (428, 149), (435, 146), (438, 160), (442, 143), (445, 170), (448, 144), (451, 164), (454, 130), (457, 168), (460, 126), (463, 115), (466, 102), (471, 215), (474, 169), (477, 217), (480, 116), (483, 165), (486, 145), (489, 203), (492, 64), (495, 214), (498, 100), (501, 147), (510, 221), (513, 200), (522, 212)] : List (Nat × Nat)), lok (rx 14) e.1 (mt e.2).1 := (List.forall_mem_cons.mpr ⟨l_X14_414, (List.forall_mem_cons.mpr ⟨l_X14_417, (List.forall_mem_cons.mpr ⟨l_X14_420, (List.forall_mem_cons.mpr ⟨l_X14_424, (List.forall_mem_cons.mpr ⟨l_X14_428, (List.forall_mem_cons.mpr ⟨l_X14_435, (List.forall_mem_cons.mpr ⟨l_X14_438, (List.forall_mem_cons.mpr ⟨l_X14_442, (List.forall_mem_cons.mpr ⟨l_X14_445, (List.forall_mem_cons.mpr ⟨l_X14_448, (List.forall_mem_cons.mpr ⟨l_X14_451, (List.forall_mem_cons.mpr ⟨l_X14_454, (List.forall_mem_cons.mpr ⟨l_X14_457, (List.forall_mem_cons.mpr ⟨l_X14_460, (List.forall_mem_cons.mpr ⟨l_X14_463, (List.forall_mem_cons.mpr ⟨l_X14_466, (List.forall_mem_cons.mpr ⟨l_X14_471, (List.forall_mem_cons.mpr ⟨l_X14_474, (List.forall_mem_cons.mpr ⟨l_X14_477, (List.forall_mem_cons.mpr ⟨l_X14_480, (List.forall_mem_cons.mpr ⟨l_X14_483, (List.forall_mem_cons.mpr ⟨l_X14_486, (List.forall_mem_cons.mpr ⟨l_X14_489, (List.forall_mem_cons.mpr ⟨l_X14_492, (List.forall_mem_cons.mpr ⟨l_X14_495, (List.forall_mem_cons.mpr ⟨l_X14_498, (List.forall_mem_cons.mpr ⟨l_X14_501, (List.forall_mem_cons.mpr ⟨l_X14_510, (List.forall_mem_cons.mpr ⟨l_X14_513, (List.forall_mem_cons.mpr ⟨l_X14_522, (fun _ h => absurd h List.not_mem_nil)⟩)⟩)⟩)⟩)⟩)⟩)⟩)⟩)⟩)⟩)⟩)⟩)⟩)⟩)⟩)⟩)⟩)⟩)⟩)⟩)⟩)⟩)⟩)⟩)⟩)⟩)⟩)⟩)⟩)⟩)
set_option maxRecDepth 100000 in
theorem LTb_14_3 : ∀ e ∈ ([(525, 140), (528, 80), (531, 123), (544, 72), (547, 187), (574, 188), (577, 190), (601, 86), (604, 90), (607, 89), (610, 87), (613, 88), (617, 189), (620, 127), (623, 136), (626, 167), (628, 85), (632, 57), (635, 132), (639, 73), (642, 82), (645, 74), (648, 83), (654, 111), (658, 137), (663, 180), (666, 71), (669, 56), (672, 68), (675, 209)] : List (Nat × Nat)), lok (rx 14) e.1 (mt e.2).1 := (List.forall_mem_cons.mpr ⟨l_X14_525, (List.forall_mem_cons.mpr ⟨l_X14_528, (List.forall_mem_cons.mpr ⟨l_X14_531, (List.forall_mem_cons.mpr ⟨l_X14_544, (List.forall_mem_cons.mpr ⟨l_X14_547, (List.forall_mem_cons.mpr ⟨l_X14_574, (List.forall_mem_cons.mpr ⟨l_X14_577, (List.forall_mem_cons.mpr ⟨l_X14_601, (List.forall_mem_cons.mpr ⟨l_X14_604, (List.forall_mem_cons.mpr ⟨l_X14_607, (List.forall_mem_cons.mpr ⟨l_X14_610, (List.forall_mem_cons.mpr ⟨l_X14_613, (List.forall_mem_cons.mpr ⟨l_X14_617, (List.forall_mem_cons.mpr ⟨l_X14_620, (List.forall_mem_cons.mpr ⟨l_X14_623, (List.forall_mem_cons.mpr ⟨l_X14_626, (List.forall_mem_cons.mpr ⟨l_X14_628, (List.forall_mem_cons.mpr ⟨l_X14_632, (List.forall_mem_cons.mpr ⟨l_X14_635, (List.forall_mem_cons.mpr ⟨l_X14_639, (List.forall_mem_cons.mpr ⟨l_X14_642, (List.forall_mem_cons.mpr ⟨l_X14_645, (List.forall_mem_cons.mpr ⟨l_X14_648, (List.forall_mem_cons.mpr ⟨l_X14_654, (List.forall_mem_cons.mpr ⟨l_X14_658, (List.forall_mem_cons.mpr ⟨l_X14_663, (List.forall_mem_cons.mpr ⟨l_X14_666, (List.forall_mem_cons.mpr ⟨l_X14_669, (List.forall_mem_cons.mpr ⟨l_X14_672, (List.forall_mem_cons.mpr ⟨l_X14_675, (fun _ h => absurd h List.not_mem_nil)⟩)⟩)⟩)⟩)⟩)⟩)⟩)⟩)⟩)⟩)⟩)⟩)⟩)⟩)⟩)⟩)⟩)⟩)⟩)⟩)⟩)⟩)⟩)⟩)⟩)⟩)⟩)⟩)⟩)⟩)
set_option maxRecDepth 100000 in
theorem LTb_14_4 : ∀ e ∈ ([(678, 216), (682, 1), (688, 2), (696, 84), (699, 91), (702, 138), (706, 218), (709, 207), (712, 213), (715, 183), (718, 199), (722, 122), (725, 118), (728, 185), (732, 202), (735, 134), (738, 135), (743, 131), (758, 108), (761, 112), (767, 191), (770, 220), (773, 128), (776, 222), (779, 77), (783, 61), (790, 195), (801, 133), (804, 219), (807, 62)] : List (Nat × Nat)), lok (rx 14) e.1 (mt e.2).1 := (List.forall_mem_cons.mpr ⟨l_X14_678, (List.forall_mem_cons.mpr ⟨l_X14_682, (List.forall_mem_cons.mpr ⟨l_X14_688, (List.forall_mem_cons.mpr ⟨l_X14_696, (List.forall_mem_cons.mpr ⟨l_X14_699, (List.forall_mem_cons.mpr ⟨l_X14_702, (List.forall_mem_cons.mpr ⟨l_X14_706, (List.forall_mem_cons.mpr ⟨l_X14_709, (List.forall_mem_cons.mpr ⟨l_X14_712, (List.forall_mem_cons.mpr ⟨l_X14_715, (List.forall_mem_cons.mpr ⟨l_X14_718, (List.forall_mem_cons.mpr ⟨l_X14_722, (List.forall_mem_cons.mpr ⟨l_X14_725, (List.forall_mem_cons.mpr ⟨l_X14_728, (List.forall_mem_cons.mpr ⟨l_X14_732, (List.forall_mem_cons.mpr ⟨l_X14_735, (List.forall_mem_cons.mpr ⟨l_X14_738, (List.forall_mem_cons.mpr ⟨l_X14_743, (List.forall_mem_cons.mpr ⟨l_X14_758, (List.forall_mem_cons.mpr ⟨l_X14_761, (List.forall_mem_cons.mpr ⟨l_X14_767, (List.forall_mem_cons.mpr ⟨l_X14_770, (List.forall_mem_cons.mpr ⟨l_X14_773, (List.forall_mem_cons.mpr ⟨l_X14_776, (List.forall_mem_cons.mpr ⟨l_X14_779, (List.forall_mem_cons.mpr ⟨l_X14_783, (List.forall_mem_cons.mpr ⟨l_X14_790, (List.forall_mem_cons.mpr ⟨l_X14_801, (List.forall_mem_cons.mpr ⟨l_X14_804, (List.forall_mem_cons.mpr ⟨l_X14_807, (fun _ h => absurd h List.not_mem_nil)⟩)⟩)⟩)⟩)⟩)⟩)⟩)⟩)⟩)⟩)⟩)⟩)⟩)⟩)⟩)⟩)⟩)⟩)⟩)⟩)⟩)⟩)⟩)⟩)⟩)⟩)⟩)⟩)⟩)⟩)
set_option maxRecDepth 100000 in
theorem LTb_14_5 : ∀ e ∈ ([(810, 110), (813, 101)] : List (Nat × Nat)), lok (rx 14) e.1 (mt e.2).1 := (List.forall_mem_cons.mpr ⟨l_X14_810, (List.forall_mem_cons.mpr ⟨l_X14_813, (fun _ h => absurd h List.not_mem_nil)⟩)⟩)
set_option maxRecDepth 100000 in
theorem LTb_14_ok : ∀ e ∈ LTb_14, lok (rx 14) e.1 (mt e.2).1 := by
  intro e he
  have h : LTb_14 = ([(173, 177), (177, 201), (180, 154), (187, 65), (206, 161), (209, 162), (212, 78), (215, 196), (218, 175), (222, 66), (225, 181), (228, 172), (231, 206), (234, 182), (237, 148), (240, 75), (243, 121), (247, 103), (250, 156), (254, 139), (257, 59), (261, 193), (264, 105), (267, 58), (271, 129), (274, 79), (277, 166), (280, 163), (283, 208), (286, 109)] : List (Nat × Nat)) ++ ([(289, 67), (293, 151), (296, 152), (299, 153), (315, 54), (319, 3), (324, 155), (327, 171), (330, 55), (332, 69), (336, 210), (339, 93), (342, 95), (345, 96), (348, 98), (351, 97), (354, 94), (357, 158), (360, 211), (363, 120), (366, 119), (371, 142), (374, 141), (377, 198), (385, 60), (391, 173), (400, 178), (404, 174), (406, 113), (411, 92)] : List (Nat × Nat)) ++ ([(414, 117), (417, 125), (420, 159), (424, 70), (428, 149), (435, 146), (438, 160), (442, 143), (445, 170), (448, 144), (451, 164), (454, 130), (457, 168), (460, 126), (463, 115), (466, 102), (471, 215), (474, 169), (477, 217), (480, 116), (483, 165), (486, 145), (489, 203), (492, 64), (495, 214), (498, 100), (501, 147), (510, 221), (513, 200), (522, 212)] : List (Nat × Nat)) ++ ([(525, 140), (528, 80), (531, 123), (544, 72), (547, 187), (574, 188), (577, 190), (601, 86), (604, 90), (607, 89), (610, 87), (613, 88), (617, 189), (620, 127), (623, 136), (626, 167), (628, 85), (632, 57), (635, 132), (639, 73), (642, 82), (645, 74), (648, 83), (654, 111), (658, 137), (663, 180), (666, 71), (669, 56), (672, 68), (675, 209)] : List (Nat × Nat)) ++ ([(678, 216), (682, 1), (688, 2), (696, 84), (699, 91), (702, 138), (706, 218), (709, 207), (712, 213), (715, 183), (718, 199), (722, 122), (725, 118), (728, 185), (732, 202), (735, 134), (738, 135), (743, 131), (758, 108), (761, 112), (767, 191), (770, 220), (773, 128), (776, 222), (779, 77), (783, 61), (790, 195), (801, 133), (804, 219), (807, 62)] : List (Nat × Nat)) ++ ([(810, 110), (813, 101)] : List (Nat × Nat)) := rfl
  rw [h] at he
  simp only [List.mem_append] at he
  rcases he with (((((he | he) | he) | he) | he) | he)
  · exact LTb_14_0 e he
  · exact LTb_14_1 e he
  · exact LTb_14_2 e he
  · exact LTb_14_3 e he
  · exact LTb_14_4 e he
  · exact LTb_14_5 e he
def LTb_18 : List (Nat × Nat) := [(13, 7)]
set_option maxRecDepth 100000 in
theorem LTb_18_0 : ∀ e ∈ ([(13, 7)] : List (Nat × Nat)), lok (rx 18) e.1 (mt e.2).1 := (List.forall_mem_cons.mpr ⟨l_J7_13, (fun _ h => absurd h List.not_mem_nil)⟩)
set_option maxRecDepth 100000 in
theorem LTb_18_ok : ∀ e ∈ LTb_18, lok (rx 18) e.1 (mt e.2).1 := by
  intro e he
  have h : LTb_18 = ([(13, 7)] : List (Nat × Nat)) := rfl
  rw [h] at he
  exact LTb_18_0 e he
def LTb_21 : List (Nat × Nat) := [(13, 38), (17, 107), (18, 35), (22, 99), (23, 40), (28, 37), (31, 106), (32, 34), (35, 81), (36, 49), (40, 192), (41, 47), (44, 184), (45, 51), (48, 197), (49, 41), (52, 124), (53, 53), (56, 205), (57, 31), (61, 61), (62, 43), (65, 157), (66, 45), (69, 176), (70, 36), (73, 104), (74, 46), (77, 179), (78, 33), (81, 76), (82, 32), (86, 63), (87, 50), (90, 194), (91, 39), (94, 114), (95, 48), (98, 186), (99, 52), (102, 204), (103, 42), (106, 150)]
set_option maxRecDepth 100000 in
theorem LTb_21_0 : ∀ e ∈ ([(13, 38), (17, 107), (18, 35), (22, 99), (23, 40), (28, 37), (31, 106), (32, 34), (35, 81), (36, 49), (40, 192), (41, 47), (44, 184), (45, 51), (48, 197), (49, 41), (52, 124), (53, 53), (56, 205), (57, 31), (61, 61), (62, 43), (65, 157), (66, 45), (69, 176), (70, 36), (73, 104), (74, 46), (77, 179), (78, 33)] : List (Nat × Nat)), lok (rx 21) e.1 (mt e.2).1 := (List.forall_mem_cons.mpr ⟨l_L_13, (List.forall_mem_cons.mpr ⟨l_L_17, (List.forall_mem_cons.mpr ⟨l_L_18, (List.forall_mem_cons.mpr ⟨l_L_22, (List.forall_mem_cons.mpr ⟨l_L_23, (List.forall_mem_cons.mpr ⟨l_L_28, (List.forall_mem_cons.mpr ⟨l_L_31, (List.forall_mem_cons.mpr ⟨l_L_32, (List.forall_mem_cons.mpr ⟨l_L_35, (List.forall_mem_cons.mpr ⟨l_L_36, (List.forall_mem_cons.mpr ⟨l_L_40, (List.forall_mem_cons.mpr ⟨l_L_41, (List.forall_mem_cons.mpr ⟨l_L_44, (List.forall_mem_cons.mpr ⟨l_L_45, (List.forall_mem_cons.mpr ⟨l_L_48, (List.forall_mem_cons.mpr ⟨l_L_49, (List.forall_mem_cons.mpr ⟨l_L_52, (List.forall_mem_cons.mpr ⟨l_L_53, (List.forall_mem_cons.mpr ⟨l_L_56, (List.forall_mem_cons.mpr ⟨l_L_57, (List.forall_mem_cons.mpr ⟨l_L_61, (List.forall_mem_cons.mpr ⟨l_L_62, (List.forall_mem_cons.mpr ⟨l_L_65, (List.forall_mem_cons.mpr ⟨l_L_66, (List.forall_mem_cons.mpr ⟨l_L_69, (List.forall_mem_cons.mpr ⟨l_L_70, (List.forall_mem_cons.mpr ⟨l_L_73, (List.forall_mem_cons.mpr ⟨l_L_74, (List.forall_mem_cons.mpr ⟨l_L_77, (List.forall_mem_cons.mpr ⟨l_L_78, (fun _ h => absurd h List.not_mem_nil)⟩)⟩)⟩)⟩)⟩)⟩)⟩)⟩)⟩)⟩)⟩)⟩)⟩)⟩)⟩)⟩)⟩)⟩)⟩)⟩)⟩)⟩)⟩)⟩)⟩)⟩)⟩)⟩)⟩)⟩)
set_option maxRecDepth 100000 in
theorem LTb_21_1 : ∀ e ∈ ([(81, 76), (82, 32), (86, 63), (87, 50), (90, 194), (91, 39), (94, 114), (95, 48), (98, 186), (99, 52), (102, 204), (103, 42), (106, 150)] : List (Nat × Nat)), lok (rx 21) e.1 (mt e.2).1 := (List.forall_mem_cons.mpr ⟨l_L_81, (List.forall_mem_cons.mpr ⟨l_L_82, (List.forall_mem_cons.mpr ⟨l_L_86, (List.forall_mem_cons.mpr ⟨l_L_87, (List.forall_mem_cons.mpr ⟨l_L_90, (List.forall_mem_cons.mpr ⟨l_L_91, (List.forall_mem_cons.mpr ⟨l_L_94, (List.forall_mem_cons.mpr ⟨l_L_95, (List.forall_mem_cons.mpr ⟨l_L_98, (List.forall_mem_cons.mpr ⟨l_L_99, (List.forall_mem_cons.mpr ⟨l_L_102, (List.forall_mem_cons.mpr ⟨l_L_103, (List.forall_mem_cons.mpr ⟨l_L_106, (fun _ h => absurd h List.not_mem_nil)⟩)⟩)⟩)⟩)⟩)⟩)⟩)⟩)⟩)⟩)⟩)⟩)⟩)
set_option maxRecDepth 100000 in
theorem LTb_21_ok : ∀ e ∈ LTb_21, lok (rx 21) e.1 (mt e.2).1 := by
  intro e he
  have h : LTb_21 = ([(13, 38), (17, 107), (18, 35), (22, 99), (23, 40), (28, 37), (31, 106), (32, 34), (35, 81), (36, 49), (40, 192), (41, 47), (44, 184), (45, 51), (48, 197), (49, 41), (52, 124), (53, 53), (56, 205), (57, 31), (61, 61), (62, 43), (65, 157), (66, 45), (69, 176), (70, 36), (73, 104), (74, 46), (77, 179), (78, 33)] : List (Nat × Nat)) ++ ([(81, 76), (82, 32), (86, 63), (87, 50), (90, 194), (91, 39), (94, 114), (95, 48), (98, 186), (99, 52), (102, 204), (103, 42), (106, 150)] : List (Nat × Nat)) := rfl
  rw [h] at he
  simp only [List.mem_append] at he
  rcases he with (he | he)
  · exact LTb_21_0 e he
  · exact LTb_21_1 e he
def LTb (n : Nat) : List (Nat × Nat) := match n with
  | 0 => LTb_0
  | 1 => LTb_1
  | 2 => LTb_2
  | 3 => LTb_3
  | 4 => LTb_4
  | 5 => LTb_5
  | 6 => LTb_6
  | 7 => LTb_7
  | 9 => LTb_9
  | 10 => LTb_10
  | 11 => LTb_11
  | 14 => LTb_14
  | 18 => LTb_18
  | 21 => LTb_21
  | _ => []
theorem LTb_ok : ∀ (n : Nat), ∀ e ∈ LTb n, lok (rx n) e.1 (mt e.2).1 := by
  intro n e he
  unfold LTb at he
  split at he
  · exact LTb_0_ok e he
  · exact LTb_1_ok e he
  · exact LTb_2_ok e he
  · exact LTb_3_ok e he
  · exact LTb_4_ok e he
  · exact LTb_5_ok e he
  · exact LTb_6_ok e he
  · exact LTb_7_ok e he
  · exact LTb_9_ok e he
  · exact LTb_10_ok e he
  · exact LTb_11_ok e he
  · exact LTb_14_ok e he
  · exact LTb_18_ok e he
  · exact LTb_21_ok e he
  · cases he
def VTb_0 : List (Nat × Nat) := [(8, 3), (9, 3), (10, 1), (11, 1), (12, 2), (13, 2), (14, 1), (15, 3), (16, 2), (18, 2), (19, 3), (20, 2), (21, 4), (22, 3), (23, 0), (24, 2), (25, 2), (26, 1), (27, 2), (28, 2), (29, 1), (30, 1), (31, 2), (32, 1), (33, 1), (34, 1), (35, 1), (36, 2), (37, 1), (38, 5), (39, 1)]
set_option maxRecDepth 100000 in
theorem VTb_0_0 : ∀ e ∈ ([(8, 3), (9, 3), (10, 1), (11, 1), (12, 2), (13, 2), (14, 1), (15, 3), (16, 2), (18, 2), (19, 3), (20, 2), (21, 4), (22, 3), (23, 0), (24, 2), (25, 2), (26, 1), (27, 2), (28, 2), (29, 1), (30, 1), (31, 2), (32, 1), (33, 1), (34, 1), (35, 1), (36, 2), (37, 1), (38, 5)] : List (Nat × Nat)), mok (mt e.1).1 (mt e.1).2.1 (mt e.1).2.2.2.1 (mt e.1).2.2.2.2.1 e.2 ∧ iok (mt e.1).1 ∧ (cl_all[(mt e.1).2.2.1]?).map (fun q => q.1) = some (mt e.1).1.cls := (List.forall_mem_cons.mpr ⟨⟨m_X0_arithmetic, i_X0_arithmetic, rfl⟩, (List.forall_mem_cons.mpr ⟨⟨m_X0_difference, i_X0_difference, rfl⟩, (List.forall_mem_cons.mpr ⟨⟨m_X0_holds, i_X0_holds, rfl⟩, (List.forall_mem_cons.mpr ⟨⟨m_X0_logic, i_X0_logic, rfl⟩, (List.forall_mem_cons.mpr ⟨⟨m_X0_note, i_X0_note, rfl⟩, (List.forall_mem_cons.mpr ⟨⟨m_X0_noteBit, i_X0_noteBit, rfl⟩, (List.forall_mem_cons.mpr ⟨⟨m_X0_noteWide, i_X0_noteWide, rfl⟩, (List.forall_mem_cons.mpr ⟨⟨m_X0_shift, i_X0_shift, rfl⟩, (List.forall_mem_cons.mpr ⟨⟨m_X0_shiftOnce, i_X0_shiftOnce, rfl⟩, (List.forall_mem_cons.mpr ⟨⟨m_X0_stepBy, i_X0_stepBy, rfl⟩, (List.forall_mem_cons.mpr ⟨⟨m_X0_sum, i_X0_sum, rfl⟩, (List.forall_mem_cons.mpr ⟨⟨m_X0_turnOnce, i_X0_turnOnce, rfl⟩, (List.forall_mem_cons.mpr ⟨⟨m_X10_add, i_X10_add, rfl⟩, (List.forall_mem_cons.mpr ⟨⟨m_X10_addBytes, i_X10_addBytes, rfl⟩, (List.forall_mem_cons.mpr ⟨⟨m_X10_clear, i_X10_clear, rfl⟩, (List.forall_mem_cons.mpr ⟨⟨m_X10_fold, i_X10_fold, rfl⟩, (List.forall_mem_cons.mpr ⟨⟨m_X10_has, i_X10_has, rfl⟩, (List.forall_mem_cons.mpr ⟨⟨m_X10_joinCases, i_X10_joinCases, rfl⟩, (List.forall_mem_cons.mpr ⟨⟨m_X10_linkChoice, i_X10_linkChoice, rfl⟩, (List.forall_mem_cons.mpr ⟨⟨m_X10_linkPart, i_X10_linkPart, rfl⟩, (List.forall_mem_cons.mpr ⟨⟨m_X10_turnBytes, i_X10_turnBytes, rfl⟩, (List.forall_mem_cons.mpr ⟨⟨m_X11_addNumber, i_X11_addNumber, rfl⟩, (List.forall_mem_cons.mpr ⟨⟨m_X11_arm, i_X11_arm, rfl⟩, (List.forall_mem_cons.mpr ⟨⟨m_X11_begin, i_X11_begin, rfl⟩, (List.forall_mem_cons.mpr ⟨⟨m_X11_check, i_X11_check, rfl⟩, (List.forall_mem_cons.mpr ⟨⟨m_X11_count, i_X11_count, rfl⟩, (List.forall_mem_cons.mpr ⟨⟨m_X11_end, i_X11_end, rfl⟩, (List.forall_mem_cons.mpr ⟨⟨m_X11_event, i_X11_event, rfl⟩, (List.forall_mem_cons.mpr ⟨⟨m_X11_fault, i_X11_fault, rfl⟩, (List.forall_mem_cons.mpr ⟨⟨m_X11_feed, i_X11_feed, rfl⟩, (fun _ h => absurd h List.not_mem_nil)⟩)⟩)⟩)⟩)⟩)⟩)⟩)⟩)⟩)⟩)⟩)⟩)⟩)⟩)⟩)⟩)⟩)⟩)⟩)⟩)⟩)⟩)⟩)⟩)⟩)⟩)⟩)⟩)⟩)⟩)
set_option maxRecDepth 100000 in
theorem VTb_0_1 : ∀ e ∈ ([(39, 1)] : List (Nat × Nat)), mok (mt e.1).1 (mt e.1).2.1 (mt e.1).2.2.2.1 (mt e.1).2.2.2.2.1 e.2 ∧ iok (mt e.1).1 ∧ (cl_all[(mt e.1).2.2.1]?).map (fun q => q.1) = some (mt e.1).1.cls := (List.forall_mem_cons.mpr ⟨⟨m_X11_get, i_X11_get, rfl⟩, (fun _ h => absurd h List.not_mem_nil)⟩)
set_option maxRecDepth 100000 in
theorem VTb_0_ok : ∀ e ∈ VTb_0, mok (mt e.1).1 (mt e.1).2.1 (mt e.1).2.2.2.1 (mt e.1).2.2.2.2.1 e.2 ∧ iok (mt e.1).1 ∧ (cl_all[(mt e.1).2.2.1]?).map (fun q => q.1) = some (mt e.1).1.cls := by
  intro e he
  have h : VTb_0 = ([(8, 3), (9, 3), (10, 1), (11, 1), (12, 2), (13, 2), (14, 1), (15, 3), (16, 2), (18, 2), (19, 3), (20, 2), (21, 4), (22, 3), (23, 0), (24, 2), (25, 2), (26, 1), (27, 2), (28, 2), (29, 1), (30, 1), (31, 2), (32, 1), (33, 1), (34, 1), (35, 1), (36, 2), (37, 1), (38, 5)] : List (Nat × Nat)) ++ ([(39, 1)] : List (Nat × Nat)) := rfl
  rw [h] at he
  simp only [List.mem_append] at he
  rcases he with (he | he)
  · exact VTb_0_0 e he
  · exact VTb_0_1 e he
def VTb_1 : List (Nat × Nat) := [(40, 0), (41, 1), (42, 1), (43, 2), (44, 2), (45, 0), (46, 0), (47, 2), (48, 2), (49, 2), (50, 1), (51, 2), (52, 2), (53, 0), (54, 3), (55, 1), (56, 3), (57, 0), (58, 2), (59, 2), (60, 2), (61, 2), (62, 0), (63, 1), (64, 1), (67, 1), (68, 1), (69, 4), (70, 3), (71, 1), (72, 1), (73, 1), (74, 2), (75, 0), (76, 1), (77, 0), (78, 0), (79, 2)]
set_option maxRecDepth 100000 in
theorem VTb_1_0 : ∀ e ∈ ([(40, 0), (41, 1), (42, 1), (43, 2), (44, 2), (45, 0), (46, 0), (47, 2), (48, 2), (49, 2), (50, 1), (51, 2), (52, 2), (53, 0), (54, 3), (55, 1), (56, 3), (57, 0), (58, 2), (59, 2), (60, 2), (61, 2), (62, 0), (63, 1), (64, 1), (67, 1), (68, 1), (69, 4), (70, 3), (71, 1)] : List (Nat × Nat)), mok (mt e.1).1 (mt e.1).2.1 (mt e.1).2.2.2.1 (mt e.1).2.2.2.2.1 e.2 ∧ iok (mt e.1).1 ∧ (cl_all[(mt e.1).2.2.1]?).map (fun q => q.1) = some (mt e.1).1.cls := (List.forall_mem_cons.mpr ⟨⟨m_X11_grammar, i_X11_grammar, rfl⟩, (List.forall_mem_cons.mpr ⟨⟨m_X11_image, i_X11_image, rfl⟩, (List.forall_mem_cons.mpr ⟨⟨m_X11_load, i_X11_load, rfl⟩, (List.forall_mem_cons.mpr ⟨⟨m_X11_match, i_X11_match, rfl⟩, (List.forall_mem_cons.mpr ⟨⟨m_X11_noteFault, i_X11_noteFault, rfl⟩, (List.forall_mem_cons.mpr ⟨⟨m_X11_peak, i_X11_peak, rfl⟩, (List.forall_mem_cons.mpr ⟨⟨m_X11_place, i_X11_place, rfl⟩, (List.forall_mem_cons.mpr ⟨⟨m_X11_program, i_X11_program, rfl⟩, (List.forall_mem_cons.mpr ⟨⟨m_X11_put, i_X11_put, rfl⟩, (List.forall_mem_cons.mpr ⟨⟨m_X11_rule, i_X11_rule, rfl⟩, (List.forall_mem_cons.mpr ⟨⟨m_X11_run, i_X11_run, rfl⟩, (List.forall_mem_cons.mpr ⟨⟨m_X11_set, i_X11_set, rfl⟩, (List.forall_mem_cons.mpr ⟨⟨m_X11_store, i_X11_store, rfl⟩, (List.forall_mem_cons.mpr ⟨⟨m_X11_subject, i_X11_subject, rfl⟩, (List.forall_mem_cons.mpr ⟨⟨m_X14_add, i_X14_add, rfl⟩, (List.forall_mem_cons.mpr ⟨⟨m_X14_add_, i_X14_add_, rfl⟩, (List.forall_mem_cons.mpr ⟨⟨m_X14_added, i_X14_added, rfl⟩, (List.forall_mem_cons.mpr ⟨⟨m_X14_address, i_X14_address, rfl⟩, (List.forall_mem_cons.mpr ⟨⟨m_X14_areAll, i_X14_areAll, rfl⟩, (List.forall_mem_cons.mpr ⟨⟨m_X14_areNames, i_X14_areNames, rfl⟩, (List.forall_mem_cons.mpr ⟨⟨m_X14_areSets, i_X14_areSets, rfl⟩, (List.forall_mem_cons.mpr ⟨⟨m_X14_arm, i_X14_arm, rfl⟩, (List.forall_mem_cons.mpr ⟨⟨m_X14_back, i_X14_back, rfl⟩, (List.forall_mem_cons.mpr ⟨⟨m_X14_begin, i_X14_begin, rfl⟩, (List.forall_mem_cons.mpr ⟨⟨m_X14_beginsBundle, i_X14_beginsBundle, rfl⟩, (List.forall_mem_cons.mpr ⟨⟨m_X14_beginsWith, i_X14_beginsWith, rfl⟩, (List.forall_mem_cons.mpr ⟨⟨m_X14_bits, i_X14_bits, rfl⟩, (List.forall_mem_cons.mpr ⟨⟨m_X14_byBytes, i_X14_byBytes, rfl⟩, (List.forall_mem_cons.mpr ⟨⟨m_X14_byNumber, i_X14_byNumber, rfl⟩, (List.forall_mem_cons.mpr ⟨⟨m_X14_byResult, i_X14_byResult, rfl⟩, (fun _ h => absurd h List.not_mem_nil)⟩)⟩)⟩)⟩)⟩)⟩)⟩)⟩)⟩)⟩)⟩)⟩)⟩)⟩)⟩)⟩)⟩)⟩)⟩)⟩)⟩)⟩)⟩)⟩)⟩)⟩)⟩)⟩)⟩)⟩)
set_option maxRecDepth 100000 in
theorem VTb_1_1 : ∀ e ∈ ([(72, 1), (73, 1), (74, 2), (75, 0), (76, 1), (77, 0), (78, 0), (79, 2)] : List (Nat × Nat)), mok (mt e.1).1 (mt e.1).2.1 (mt e.1).2.2.2.1 (mt e.1).2.2.2.2.1 e.2 ∧ iok (mt e.1).1 ∧ (cl_all[(mt e.1).2.2.1]?).map (fun q => q.1) = some (mt e.1).1.cls := (List.forall_mem_cons.mpr ⟨⟨m_X14_byteAt, i_X14_byteAt, rfl⟩, (List.forall_mem_cons.mpr ⟨⟨m_X14_byteOf, i_X14_byteOf, rfl⟩, (List.forall_mem_cons.mpr ⟨⟨m_X14_byteTo, i_X14_byteTo, rfl⟩, (List.forall_mem_cons.mpr ⟨⟨m_X14_charClass, i_X14_charClass, rfl⟩, (List.forall_mem_cons.mpr ⟨⟨m_X14_check, i_X14_check, rfl⟩, (List.forall_mem_cons.mpr ⟨⟨m_X14_checked, i_X14_checked, rfl⟩, (List.forall_mem_cons.mpr ⟨⟨m_X14_choice, i_X14_choice, rfl⟩, (List.forall_mem_cons.mpr ⟨⟨m_X14_comes, i_X14_comes, rfl⟩, (fun _ h => absurd h List.not_mem_nil)⟩)⟩)⟩)⟩)⟩)⟩)⟩)⟩)
set_option maxRecDepth 100000 in
theorem VTb_1_ok : ∀ e ∈ VTb_1, mok (mt e.1).1 (mt e.1).2.1 (mt e.1).2.2.2.1 (mt e.1).2.2.2.2.1 e.2 ∧ iok (mt e.1).1 ∧ (cl_all[(mt e.1).2.2.1]?).map (fun q => q.1) = some (mt e.1).1.cls := by
  intro e he
  have h : VTb_1 = ([(40, 0), (41, 1), (42, 1), (43, 2), (44, 2), (45, 0), (46, 0), (47, 2), (48, 2), (49, 2), (50, 1), (51, 2), (52, 2), (53, 0), (54, 3), (55, 1), (56, 3), (57, 0), (58, 2), (59, 2), (60, 2), (61, 2), (62, 0), (63, 1), (64, 1), (67, 1), (68, 1), (69, 4), (70, 3), (71, 1)] : List (Nat × Nat)) ++ ([(72, 1), (73, 1), (74, 2), (75, 0), (76, 1), (77, 0), (78, 0), (79, 2)] : List (Nat × Nat)) := rfl
  rw [h] at he
  simp only [List.mem_append] at he
  rcases he with (he | he)
  · exact VTb_1_0 e he
  · exact VTb_1_1 e he
def VTb_2 : List (Nat × Nat) := [(80, 0), (81, 1), (82, 1), (83, 2), (84, 1), (85, 1), (86, 0), (87, 1), (88, 1), (89, 1), (90, 1), (91, 1), (92, 0), (93, 1), (94, 1), (95, 1), (96, 1), (97, 1), (98, 1), (99, 1), (100, 0), (101, 2), (102, 1), (103, 0), (104, 2), (105, 2), (106, 1), (107, 5), (108, 0), (109, 1), (110, 1), (111, 2), (112, 0), (113, 1), (114, 1), (115, 1), (116, 0), (117, 2), (118, 2)]
set_option maxRecDepth 100000 in
theorem VTb_2_0 : ∀ e ∈ ([(80, 0), (81, 1), (82, 1), (83, 2), (84, 1), (85, 1), (86, 0), (87, 1), (88, 1), (89, 1), (90, 1), (91, 1), (92, 0), (93, 1), (94, 1), (95, 1), (96, 1), (97, 1), (98, 1), (99, 1), (100, 0), (101, 2), (102, 1), (103, 0), (104, 2), (105, 2), (106, 1), (107, 5), (108, 0), (109, 1)] : List (Nat × Nat)), mok (mt e.1).1 (mt e.1).2.1 (mt e.1).2.2.2.1 (mt e.1).2.2.2.2.1 e.2 ∧ iok (mt e.1).1 ∧ (cl_all[(mt e.1).2.2.1]?).map (fun q => q.1) = some (mt e.1).1.cls := (List.forall_mem_cons.mpr ⟨⟨m_X14_compile, i_X14_compile, rfl⟩, (List.forall_mem_cons.mpr ⟨⟨m_X14_count, i_X14_count, rfl⟩, (List.forall_mem_cons.mpr ⟨⟨m_X14_dataAt, i_X14_dataAt, rfl⟩, (List.forall_mem_cons.mpr ⟨⟨m_X14_dataPut, i_X14_dataPut, rfl⟩, (List.forall_mem_cons.mpr ⟨⟨m_X14_decode, i_X14_decode, rfl⟩, (List.forall_mem_cons.mpr ⟨⟨m_X14_decodeByThree, i_X14_decodeByThree, rfl⟩, (List.forall_mem_cons.mpr ⟨⟨m_X14_decodeLong, i_X14_decodeLong, rfl⟩, (List.forall_mem_cons.mpr ⟨⟨m_X14_decodeMoves, i_X14_decodeMoves, rfl⟩, (List.forall_mem_cons.mpr ⟨⟨m_X14_decodeRest, i_X14_decodeRest, rfl⟩, (List.forall_mem_cons.mpr ⟨⟨m_X14_decodeShort, i_X14_decodeShort, rfl⟩, (List.forall_mem_cons.mpr ⟨⟨m_X14_decodeSum, i_X14_decodeSum, rfl⟩, (List.forall_mem_cons.mpr ⟨⟨m_X14_doesIt, i_X14_doesIt, rfl⟩, (List.forall_mem_cons.mpr ⟨⟨m_X14_done, i_X14_done, rfl⟩, (List.forall_mem_cons.mpr ⟨⟨m_X14_emit, i_X14_emit, rfl⟩, (List.forall_mem_cons.mpr ⟨⟨m_X14_emitAnd, i_X14_emitAnd, rfl⟩, (List.forall_mem_cons.mpr ⟨⟨m_X14_emitChoice, i_X14_emitChoice, rfl⟩, (List.forall_mem_cons.mpr ⟨⟨m_X14_emitMaybe, i_X14_emitMaybe, rfl⟩, (List.forall_mem_cons.mpr ⟨⟨m_X14_emitNot, i_X14_emitNot, rfl⟩, (List.forall_mem_cons.mpr ⟨⟨m_X14_emitStar, i_X14_emitStar, rfl⟩, (List.forall_mem_cons.mpr ⟨⟨m_X14_end, i_X14_end, rfl⟩, (List.forall_mem_cons.mpr ⟨⟨m_X14_ends, i_X14_ends, rfl⟩, (List.forall_mem_cons.mpr ⟨⟨m_X14_entry, i_X14_entry, rfl⟩, (List.forall_mem_cons.mpr ⟨⟨m_X14_entryNumber, i_X14_entryNumber, rfl⟩, (List.forall_mem_cons.mpr ⟨⟨m_X14_escaped, i_X14_escaped, rfl⟩, (List.forall_mem_cons.mpr ⟨⟨m_X14_event, i_X14_event, rfl⟩, (List.forall_mem_cons.mpr ⟨⟨m_X14_fault, i_X14_fault, rfl⟩, (List.forall_mem_cons.mpr ⟨⟨m_X14_fault_, i_X14_fault_, rfl⟩, (List.forall_mem_cons.mpr ⟨⟨m_X14_feed, i_X14_feed, rfl⟩, (List.forall_mem_cons.mpr ⟨⟨m_X14_findGoals, i_X14_findGoals, rfl⟩, (List.forall_mem_cons.mpr ⟨⟨m_X14_firsts, i_X14_firsts, rfl⟩, (fun _ h => absurd h List.not_mem_nil)⟩)⟩)⟩)⟩)⟩)⟩)⟩)⟩)⟩)⟩)⟩)⟩)⟩)⟩)⟩)⟩)⟩)⟩)⟩)⟩)⟩)⟩)⟩)⟩)⟩)⟩)⟩)⟩)⟩)⟩)
set_option maxRecDepth 100000 in
theorem VTb_2_1 : ∀ e ∈ ([(110, 1), (111, 2), (112, 0), (113, 1), (114, 1), (115, 1), (116, 0), (117, 2), (118, 2)] : List (Nat × Nat)), mok (mt e.1).1 (mt e.1).2.1 (mt e.1).2.2.2.1 (mt e.1).2.2.2.2.1 e.2 ∧ iok (mt e.1).1 ∧ (cl_all[(mt e.1).2.2.1]?).map (fun q => q.1) = some (mt e.1).1.cls := (List.forall_mem_cons.mpr ⟨⟨m_X14_fits, i_X14_fits, rfl⟩, (List.forall_mem_cons.mpr ⟨⟨m_X14_flag, i_X14_flag, rfl⟩, (List.forall_mem_cons.mpr ⟨⟨m_X14_forget, i_X14_forget, rfl⟩, (List.forall_mem_cons.mpr ⟨⟨m_X14_four, i_X14_four, rfl⟩, (List.forall_mem_cons.mpr ⟨⟨m_X14_get, i_X14_get, rfl⟩, (List.forall_mem_cons.mpr ⟨⟨m_X14_go, i_X14_go, rfl⟩, (List.forall_mem_cons.mpr ⟨⟨m_X14_goByNumber, i_X14_goByNumber, rfl⟩, (List.forall_mem_cons.mpr ⟨⟨m_X14_goIf, i_X14_goIf, rfl⟩, (List.forall_mem_cons.mpr ⟨⟨m_X14_goes, i_X14_goes, rfl⟩, (fun _ h => absurd h List.not_mem_nil)⟩)⟩)⟩)⟩)⟩)⟩)⟩)⟩)⟩)
set_option maxRecDepth 100000 in
theorem VTb_2_ok : ∀ e ∈ VTb_2, mok (mt e.1).1 (mt e.1).2.1 (mt e.1).2.2.2.1 (mt e.1).2.2.2.2.1 e.2 ∧ iok (mt e.1).1 ∧ (cl_all[(mt e.1).2.2.1]?).map (fun q => q.1) = some (mt e.1).1.cls := by
  intro e he
  have h : VTb_2 = ([(80, 0), (81, 1), (82, 1), (83, 2), (84, 1), (85, 1), (86, 0), (87, 1), (88, 1), (89, 1), (90, 1), (91, 1), (92, 0), (93, 1), (94, 1), (95, 1), (96, 1), (97, 1), (98, 1), (99, 1), (100, 0), (101, 2), (102, 1), (103, 0), (104, 2), (105, 2), (106, 1), (107, 5), (108, 0), (109, 1)] : List (Nat × Nat)) ++ ([(110, 1), (111, 2), (112, 0), (113, 1), (114, 1), (115, 1), (116, 0), (117, 2), (118, 2)] : List (Nat × Nat)) := rfl
  rw [h] at he
  simp only [List.mem_append] at he
  rcases he with (he | he)
  · exact VTb_2_0 e he
  · exact VTb_2_1 e he
def VTb_3 : List (Nat × Nat) := [(120, 1), (122, 1), (123, 0), (124, 1), (125, 1), (126, 2), (127, 2), (128, 0), (129, 2), (130, 2), (131, 0), (133, 2), (134, 1), (135, 0), (136, 1), (137, 1), (138, 0), (139, 0), (140, 0), (141, 0), (142, 0), (143, 2), (144, 0), (145, 0), (146, 0), (147, 0), (148, 0), (149, 2), (150, 1), (151, 0), (152, 0), (153, 0), (154, 1), (155, 1), (156, 2), (157, 2), (158, 1), (159, 2)]
set_option maxRecDepth 100000 in
theorem VTb_3_0 : ∀ e ∈ ([(120, 1), (122, 1), (123, 0), (124, 1), (125, 1), (126, 2), (127, 2), (128, 0), (129, 2), (130, 2), (131, 0), (133, 2), (134, 1), (135, 0), (136, 1), (137, 1), (138, 0), (139, 0), (140, 0), (141, 0), (142, 0), (143, 2), (144, 0), (145, 0), (146, 0), (147, 0), (148, 0), (149, 2), (150, 1), (151, 0)] : List (Nat × Nat)), mok (mt e.1).1 (mt e.1).2.1 (mt e.1).2.2.2.1 (mt e.1).2.2.2.2.1 e.2 ∧ iok (mt e.1).1 ∧ (cl_all[(mt e.1).2.2.1]?).map (fun q => q.1) = some (mt e.1).1.cls := (List.forall_mem_cons.mpr ⟨⟨m_X14_here, i_X14_here, rfl⟩, (List.forall_mem_cons.mpr ⟨⟨m_X14_holds, i_X14_holds, rfl⟩, (List.forall_mem_cons.mpr ⟨⟨m_X14_image, i_X14_image, rfl⟩, (List.forall_mem_cons.mpr ⟨⟨m_X14_image_, i_X14_image_, rfl⟩, (List.forall_mem_cons.mpr ⟨⟨m_X14_inBounds, i_X14_inBounds, rfl⟩, (List.forall_mem_cons.mpr ⟨⟨m_X14_inSet, i_X14_inSet, rfl⟩, (List.forall_mem_cons.mpr ⟨⟨m_X14_is, i_X14_is, rfl⟩, (List.forall_mem_cons.mpr ⟨⟨m_X14_isAnd, i_X14_isAnd, rfl⟩, (List.forall_mem_cons.mpr ⟨⟨m_X14_isAny, i_X14_isAny, rfl⟩, (List.forall_mem_cons.mpr ⟨⟨m_X14_isByte, i_X14_isByte, rfl⟩, (List.forall_mem_cons.mpr ⟨⟨m_X14_isConfined, i_X14_isConfined, rfl⟩, (List.forall_mem_cons.mpr ⟨⟨m_X14_isIn, i_X14_isIn, rfl⟩, (List.forall_mem_cons.mpr ⟨⟨m_X14_isInstruction, i_X14_isInstruction, rfl⟩, (List.forall_mem_cons.mpr ⟨⟨m_X14_isJump, i_X14_isJump, rfl⟩, (List.forall_mem_cons.mpr ⟨⟨m_X14_isRegister, i_X14_isRegister, rfl⟩, (List.forall_mem_cons.mpr ⟨⟨m_X14_isSet, i_X14_isSet, rfl⟩, (List.forall_mem_cons.mpr ⟨⟨m_X14_isThere, i_X14_isThere, rfl⟩, (List.forall_mem_cons.mpr ⟨⟨m_X14_item, i_X14_item, rfl⟩, (List.forall_mem_cons.mpr ⟨⟨m_X14_judge, i_X14_judge, rfl⟩, (List.forall_mem_cons.mpr ⟨⟨m_X14_jumpsBecome, i_X14_jumpsBecome, rfl⟩, (List.forall_mem_cons.mpr ⟨⟨m_X14_jumpsOn, i_X14_jumpsOn, rfl⟩, (List.forall_mem_cons.mpr ⟨⟨m_X14_keep, i_X14_keep, rfl⟩, (List.forall_mem_cons.mpr ⟨⟨m_X14_labelFail, i_X14_labelFail, rfl⟩, (List.forall_mem_cons.mpr ⟨⟨m_X14_labelNo, i_X14_labelNo, rfl⟩, (List.forall_mem_cons.mpr ⟨⟨m_X14_labelOver, i_X14_labelOver, rfl⟩, (List.forall_mem_cons.mpr ⟨⟨m_X14_lay, i_X14_lay, rfl⟩, (List.forall_mem_cons.mpr ⟨⟨m_X14_literal, i_X14_literal, rfl⟩, (List.forall_mem_cons.mpr ⟨⟨m_X14_load, i_X14_load, rfl⟩, (List.forall_mem_cons.mpr ⟨⟨m_X14_load_, i_X14_load_, rfl⟩, (List.forall_mem_cons.mpr ⟨⟨m_X14_lookAtNames, i_X14_lookAtNames, rfl⟩, (fun _ h => absurd h List.not_mem_nil)⟩)⟩)⟩)⟩)⟩)⟩)⟩)⟩)⟩)⟩)⟩)⟩)⟩)⟩)⟩)⟩)⟩)⟩)⟩)⟩)⟩)⟩)⟩)⟩)⟩)⟩)⟩)⟩)⟩)⟩)
set_option maxRecDepth 100000 in
theorem VTb_3_1 : ∀ e ∈ ([(152, 0), (153, 0), (154, 1), (155, 1), (156, 2), (157, 2), (158, 1), (159, 2)] : List (Nat × Nat)), mok (mt e.1).1 (mt e.1).2.1 (mt e.1).2.2.2.1 (mt e.1).2.2.2.2.1 e.2 ∧ iok (mt e.1).1 ∧ (cl_all[(mt e.1).2.2.1]?).map (fun q => q.1) = some (mt e.1).1.cls := (List.forall_mem_cons.mpr ⟨⟨m_X14_lookAtParts, i_X14_lookAtParts, rfl⟩, (List.forall_mem_cons.mpr ⟨⟨m_X14_lookAtRules, i_X14_lookAtRules, rfl⟩, (List.forall_mem_cons.mpr ⟨⟨m_X14_malformed, i_X14_malformed, rfl⟩, (List.forall_mem_cons.mpr ⟨⟨m_X14_many, i_X14_many, rfl⟩, (List.forall_mem_cons.mpr ⟨⟨m_X14_mark, i_X14_mark, rfl⟩, (List.forall_mem_cons.mpr ⟨⟨m_X14_match, i_X14_match, rfl⟩, (List.forall_mem_cons.mpr ⟨⟨m_X14_mixes, i_X14_mixes, rfl⟩, (List.forall_mem_cons.mpr ⟨⟨m_X14_move, i_X14_move, rfl⟩, (fun _ h => absurd h List.not_mem_nil)⟩)⟩)⟩)⟩)⟩)⟩)⟩)⟩)
set_option maxRecDepth 100000 in
theorem VTb_3_ok : ∀ e ∈ VTb_3, mok (mt e.1).1 (mt e.1).2.1 (mt e.1).2.2.2.1 (mt e.1).2.2.2.2.1 e.2 ∧ iok (mt e.1).1 ∧ (cl_all[(mt e.1).2.2.1]?).map (fun q => q.1) = some (mt e.1).1.cls := by
  intro e he
  have h : VTb_3 = ([(120, 1), (122, 1), (123, 0), (124, 1), (125, 1), (126, 2), (127, 2), (128, 0), (129, 2), (130, 2), (131, 0), (133, 2), (134, 1), (135, 0), (136, 1), (137, 1), (138, 0), (139, 0), (140, 0), (141, 0), (142, 0), (143, 2), (144, 0), (145, 0), (146, 0), (147, 0), (148, 0), (149, 2), (150, 1), (151, 0)] : List (Nat × Nat)) ++ ([(152, 0), (153, 0), (154, 1), (155, 1), (156, 2), (157, 2), (158, 1), (159, 2)] : List (Nat × Nat)) := rfl
  rw [h] at he
  simp only [List.mem_append] at he
  rcases he with (he | he)
  · exact VTb_3_0 e he
  · exact VTb_3_1 e he
def VTb_4 : List (Nat × Nat) := [(160, 2), (161, 1), (162, 1), (163, 1), (164, 1), (165, 1), (166, 1), (167, 1), (168, 0), (169, 0), (170, 2), (171, 1), (172, 0), (173, 1), (174, 2), (175, 2), (176, 0), (177, 0), (178, 3), (179, 0), (181, 0), (182, 0), (183, 1), (184, 2), (185, 1), (186, 2), (187, 0), (188, 0), (189, 0), (190, 0), (191, 1), (192, 2), (193, 1), (194, 1), (195, 2), (196, 0), (197, 2), (198, 0), (199, 3)]
set_option maxRecDepth 100000 in
theorem VTb_4_0 : ∀ e ∈ ([(160, 2), (161, 1), (162, 1), (163, 1), (164, 1), (165, 1), (166, 1), (167, 1), (168, 0), (169, 0), (170, 2), (171, 1), (172, 0), (173, 1), (174, 2), (175, 2), (176, 0), (177, 0), (178, 3), (179, 0), (181, 0), (182, 0), (183, 1), (184, 2), (185, 1), (186, 2), (187, 0), (188, 0), (189, 0), (190, 0)] : List (Nat × Nat)), mok (mt e.1).1 (mt e.1).2.1 (mt e.1).2.2.2.1 (mt e.1).2.2.2.2.1 e.2 ∧ iok (mt e.1).1 ∧ (cl_all[(mt e.1).2.2.1]?).map (fun q => q.1) = some (mt e.1).1.cls := (List.forall_mem_cons.mpr ⟨⟨m_X14_moveNumber, i_X14_moveNumber, rfl⟩, (List.forall_mem_cons.mpr ⟨⟨m_X14_name, i_X14_name, rfl⟩, (List.forall_mem_cons.mpr ⟨⟨m_X14_need, i_X14_need, rfl⟩, (List.forall_mem_cons.mpr ⟨⟨m_X14_never, i_X14_never, rfl⟩, (List.forall_mem_cons.mpr ⟨⟨m_X14_nextByte, i_X14_nextByte, rfl⟩, (List.forall_mem_cons.mpr ⟨⟨m_X14_note, i_X14_note, rfl⟩, (List.forall_mem_cons.mpr ⟨⟨m_X14_nullable, i_X14_nullable, rfl⟩, (List.forall_mem_cons.mpr ⟨⟨m_X14_number, i_X14_number, rfl⟩, (List.forall_mem_cons.mpr ⟨⟨m_X14_on, i_X14_on, rfl⟩, (List.forall_mem_cons.mpr ⟨⟨m_X14_oneLess, i_X14_oneLess, rfl⟩, (List.forall_mem_cons.mpr ⟨⟨m_X14_oneMore, i_X14_oneMore, rfl⟩, (List.forall_mem_cons.mpr ⟨⟨m_X14_only, i_X14_only, rfl⟩, (List.forall_mem_cons.mpr ⟨⟨m_X14_opens, i_X14_opens, rfl⟩, (List.forall_mem_cons.mpr ⟨⟨m_X14_out, i_X14_out, rfl⟩, (List.forall_mem_cons.mpr ⟨⟨m_X14_out_, i_X14_out_, rfl⟩, (List.forall_mem_cons.mpr ⟨⟨m_X14_part, i_X14_part, rfl⟩, (List.forall_mem_cons.mpr ⟨⟨m_X14_peak, i_X14_peak, rfl⟩, (List.forall_mem_cons.mpr ⟨⟨m_X14_peek, i_X14_peek, rfl⟩, (List.forall_mem_cons.mpr ⟨⟨m_X14_piece, i_X14_piece, rfl⟩, (List.forall_mem_cons.mpr ⟨⟨m_X14_place, i_X14_place, rfl⟩, (List.forall_mem_cons.mpr ⟨⟨m_X14_prefix, i_X14_prefix, rfl⟩, (List.forall_mem_cons.mpr ⟨⟨m_X14_primary, i_X14_primary, rfl⟩, (List.forall_mem_cons.mpr ⟨⟨m_X14_products, i_X14_products, rfl⟩, (List.forall_mem_cons.mpr ⟨⟨m_X14_program, i_X14_program, rfl⟩, (List.forall_mem_cons.mpr ⟨⟨m_X14_pushes, i_X14_pushes, rfl⟩, (List.forall_mem_cons.mpr ⟨⟨m_X14_put, i_X14_put, rfl⟩, (List.forall_mem_cons.mpr ⟨⟨m_X14_read, i_X14_read, rfl⟩, (List.forall_mem_cons.mpr ⟨⟨m_X14_readFour, i_X14_readFour, rfl⟩, (List.forall_mem_cons.mpr ⟨⟨m_X14_readM, i_X14_readM, rfl⟩, (List.forall_mem_cons.mpr ⟨⟨m_X14_readOne, i_X14_readOne, rfl⟩, (fun _ h => absurd h List.not_mem_nil)⟩)⟩)⟩)⟩)⟩)⟩)⟩)⟩)⟩)⟩)⟩)⟩)⟩)⟩)⟩)⟩)⟩)⟩)⟩)⟩)⟩)⟩)⟩)⟩)⟩)⟩)⟩)⟩)⟩)⟩)
set_option maxRecDepth 100000 in
theorem VTb_4_1 : ∀ e ∈ ([(191, 1), (192, 2), (193, 1), (194, 1), (195, 2), (196, 0), (197, 2), (198, 0), (199, 3)] : List (Nat × Nat)), mok (mt e.1).1 (mt e.1).2.1 (mt e.1).2.2.2.1 (mt e.1).2.2.2.2.1 e.2 ∧ iok (mt e.1).1 ∧ (cl_all[(mt e.1).2.2.1]?).map (fun q => q.1) = some (mt e.1).1.cls := (List.forall_mem_cons.mpr ⟨⟨m_X14_reason, i_X14_reason, rfl⟩, (List.forall_mem_cons.mpr ⟨⟨m_X14_rule, i_X14_rule, rfl⟩, (List.forall_mem_cons.mpr ⟨⟨m_X14_ruleOf, i_X14_ruleOf, rfl⟩, (List.forall_mem_cons.mpr ⟨⟨m_X14_run, i_X14_run, rfl⟩, (List.forall_mem_cons.mpr ⟨⟨m_X14_runs, i_X14_runs, rfl⟩, (List.forall_mem_cons.mpr ⟨⟨m_X14_sequence, i_X14_sequence, rfl⟩, (List.forall_mem_cons.mpr ⟨⟨m_X14_set, i_X14_set, rfl⟩, (List.forall_mem_cons.mpr ⟨⟨m_X14_sets, i_X14_sets, rfl⟩, (List.forall_mem_cons.mpr ⟨⟨m_X14_shifted, i_X14_shifted, rfl⟩, (fun _ h => absurd h List.not_mem_nil)⟩)⟩)⟩)⟩)⟩)⟩)⟩)⟩)⟩)
set_option maxRecDepth 100000 in
theorem VTb_4_ok : ∀ e ∈ VTb_4, mok (mt e.1).1 (mt e.1).2.1 (mt e.1).2.2.2.1 (mt e.1).2.2.2.2.1 e.2 ∧ iok (mt e.1).1 ∧ (cl_all[(mt e.1).2.2.1]?).map (fun q => q.1) = some (mt e.1).1.cls := by
  intro e he
  have h : VTb_4 = ([(160, 2), (161, 1), (162, 1), (163, 1), (164, 1), (165, 1), (166, 1), (167, 1), (168, 0), (169, 0), (170, 2), (171, 1), (172, 0), (173, 1), (174, 2), (175, 2), (176, 0), (177, 0), (178, 3), (179, 0), (181, 0), (182, 0), (183, 1), (184, 2), (185, 1), (186, 2), (187, 0), (188, 0), (189, 0), (190, 0)] : List (Nat × Nat)) ++ ([(191, 1), (192, 2), (193, 1), (194, 1), (195, 2), (196, 0), (197, 2), (198, 0), (199, 3)] : List (Nat × Nat)) := rfl
  rw [h] at he
  simp only [List.mem_append] at he
  rcases he with (he | he)
  · exact VTb_4_0 e he
  · exact VTb_4_1 e he
def VTb_5 : List (Nat × Nat) := [(200, 1), (201, 0), (202, 0), (203, 1), (204, 2), (205, 0), (206, 0), (207, 3), (208, 1), (209, 3), (210, 1), (211, 1), (212, 0), (213, 1), (214, 1), (215, 3), (216, 1), (217, 0), (218, 0), (219, 1), (220, 1), (221, 0), (222, 1), (223, 1), (224, 1), (225, 0), (226, 1), (227, 1), (228, 1), (229, 1), (230, 2), (231, 1), (232, 0), (233, 1), (234, 0), (235, 0), (236, 1), (237, 2), (238, 2), (239, 0)]
set_option maxRecDepth 100000 in
theorem VTb_5_0 : ∀ e ∈ ([(200, 1), (201, 0), (202, 0), (203, 1), (204, 2), (205, 0), (206, 0), (207, 3), (208, 1), (209, 3), (210, 1), (211, 1), (212, 0), (213, 1), (214, 1), (215, 3), (216, 1), (217, 0), (218, 0), (219, 1), (220, 1), (221, 0), (222, 1), (223, 1), (224, 1), (225, 0), (226, 1), (227, 1), (228, 1), (229, 1)] : List (Nat × Nat)), mok (mt e.1).1 (mt e.1).2.1 (mt e.1).2.2.2.1 (mt e.1).2.2.2.2.1 e.2 ∧ iok (mt e.1).1 ∧ (cl_all[(mt e.1).2.2.1]?).map (fun q => q.1) = some (mt e.1).1.cls := (List.forall_mem_cons.mpr ⟨⟨m_X14_sizeOf, i_X14_sizeOf, rfl⟩, (List.forall_mem_cons.mpr ⟨⟨m_X14_skip, i_X14_skip, rfl⟩, (List.forall_mem_cons.mpr ⟨⟨m_X14_steps, i_X14_steps, rfl⟩, (List.forall_mem_cons.mpr ⟨⟨m_X14_stops, i_X14_stops, rfl⟩, (List.forall_mem_cons.mpr ⟨⟨m_X14_store, i_X14_store, rfl⟩, (List.forall_mem_cons.mpr ⟨⟨m_X14_subject, i_X14_subject, rfl⟩, (List.forall_mem_cons.mpr ⟨⟨m_X14_suffix, i_X14_suffix, rfl⟩, (List.forall_mem_cons.mpr ⟨⟨m_X14_summed, i_X14_summed, rfl⟩, (List.forall_mem_cons.mpr ⟨⟨m_X14_sure, i_X14_sure, rfl⟩, (List.forall_mem_cons.mpr ⟨⟨m_X14_taken, i_X14_taken, rfl⟩, (List.forall_mem_cons.mpr ⟨⟨m_X14_test, i_X14_test, rfl⟩, (List.forall_mem_cons.mpr ⟨⟨m_X14_testUnlessNullable, i_X14_testUnlessNullable, rfl⟩, (List.forall_mem_cons.mpr ⟨⟨m_X14_text, i_X14_text, rfl⟩, (List.forall_mem_cons.mpr ⟨⟨m_X14_toM, i_X14_toM, rfl⟩, (List.forall_mem_cons.mpr ⟨⟨m_X14_translate, i_X14_translate, rfl⟩, (List.forall_mem_cons.mpr ⟨⟨m_X14_translateMore, i_X14_translateMore, rfl⟩, (List.forall_mem_cons.mpr ⟨⟨m_X14_twoFlags, i_X14_twoFlags, rfl⟩, (List.forall_mem_cons.mpr ⟨⟨m_X14_up, i_X14_up, rfl⟩, (List.forall_mem_cons.mpr ⟨⟨m_X14_valueOfM, i_X14_valueOfM, rfl⟩, (List.forall_mem_cons.mpr ⟨⟨m_X14_wants, i_X14_wants, rfl⟩, (List.forall_mem_cons.mpr ⟨⟨m_X14_wide, i_X14_wide, rfl⟩, (List.forall_mem_cons.mpr ⟨⟨m_X14_write, i_X14_write, rfl⟩, (List.forall_mem_cons.mpr ⟨⟨m_X14_writes, i_X14_writes, rfl⟩, (List.forall_mem_cons.mpr ⟨⟨m_X1_keepRoom, i_X1_keepRoom, rfl⟩, (List.forall_mem_cons.mpr ⟨⟨m_X1_layAll, i_X1_layAll, rfl⟩, (List.forall_mem_cons.mpr ⟨⟨m_X1_layBackCommit, i_X1_layBackCommit, rfl⟩, (List.forall_mem_cons.mpr ⟨⟨m_X1_layByte, i_X1_layByte, rfl⟩, (List.forall_mem_cons.mpr ⟨⟨m_X1_layCall, i_X1_layCall, rfl⟩, (List.forall_mem_cons.mpr ⟨⟨m_X1_layChoice, i_X1_layChoice, rfl⟩, (List.forall_mem_cons.mpr ⟨⟨m_X1_layControl, i_X1_layControl, rfl⟩, (fun _ h => absurd h List.not_mem_nil)⟩)⟩)⟩)⟩)⟩)⟩)⟩)⟩)⟩)⟩)⟩)⟩)⟩)⟩)⟩)⟩)⟩)⟩)⟩)⟩)⟩)⟩)⟩)⟩)⟩)⟩)⟩)⟩)⟩)⟩)
set_option maxRecDepth 100000 in
theorem VTb_5_1 : ∀ e ∈ ([(230, 2), (231, 1), (232, 0), (233, 1), (234, 0), (235, 0), (236, 1), (237, 2), (238, 2), (239, 0)] : List (Nat × Nat)), mok (mt e.1).1 (mt e.1).2.1 (mt e.1).2.2.2.1 (mt e.1).2.2.2.2.1 e.2 ∧ iok (mt e.1).1 ∧ (cl_all[(mt e.1).2.2.1]?).map (fun q => q.1) = some (mt e.1).1.cls := (List.forall_mem_cons.mpr ⟨⟨m_X1_layCopy, i_X1_layCopy, rfl⟩, (List.forall_mem_cons.mpr ⟨⟨m_X1_layEnd, i_X1_layEnd, rfl⟩, (List.forall_mem_cons.mpr ⟨⟨m_X1_layEntry, i_X1_layEntry, rfl⟩, (List.forall_mem_cons.mpr ⟨⟨m_X1_layEvent, i_X1_layEvent, rfl⟩, (List.forall_mem_cons.mpr ⟨⟨m_X1_layFail, i_X1_layFail, rfl⟩, (List.forall_mem_cons.mpr ⟨⟨m_X1_layGo, i_X1_layGo, rfl⟩, (List.forall_mem_cons.mpr ⟨⟨m_X1_layIn, i_X1_layIn, rfl⟩, (List.forall_mem_cons.mpr ⟨⟨m_X1_layJump, i_X1_layJump, rfl⟩, (List.forall_mem_cons.mpr ⟨⟨m_X1_layLeap, i_X1_layLeap, rfl⟩, (List.forall_mem_cons.mpr ⟨⟨m_X1_layLimit, i_X1_layLimit, rfl⟩, (fun _ h => absurd h List.not_mem_nil)⟩)⟩)⟩)⟩)⟩)⟩)⟩)⟩)⟩)⟩)
set_option maxRecDepth 100000 in
theorem VTb_5_ok : ∀ e ∈ VTb_5, mok (mt e.1).1 (mt e.1).2.1 (mt e.1).2.2.2.1 (mt e.1).2.2.2.2.1 e.2 ∧ iok (mt e.1).1 ∧ (cl_all[(mt e.1).2.2.1]?).map (fun q => q.1) = some (mt e.1).1.cls := by
  intro e he
  have h : VTb_5 = ([(200, 1), (201, 0), (202, 0), (203, 1), (204, 2), (205, 0), (206, 0), (207, 3), (208, 1), (209, 3), (210, 1), (211, 1), (212, 0), (213, 1), (214, 1), (215, 3), (216, 1), (217, 0), (218, 0), (219, 1), (220, 1), (221, 0), (222, 1), (223, 1), (224, 1), (225, 0), (226, 1), (227, 1), (228, 1), (229, 1)] : List (Nat × Nat)) ++ ([(230, 2), (231, 1), (232, 0), (233, 1), (234, 0), (235, 0), (236, 1), (237, 2), (238, 2), (239, 0)] : List (Nat × Nat)) := rfl
  rw [h] at he
  simp only [List.mem_append] at he
  rcases he with (he | he)
  · exact VTb_5_0 e he
  · exact VTb_5_1 e he
def VTb_6 : List (Nat × Nat) := [(240, 2), (241, 3), (242, 0), (243, 3), (244, 1), (245, 0), (246, 0), (247, 1), (248, 1), (249, 1), (250, 0), (252, 0), (254, 0), (255, 0), (256, 0), (257, 0), (258, 0), (260, 0), (261, 1), (262, 0), (263, 0), (264, 1), (265, 2), (266, 0), (267, 0), (268, 1), (269, 2), (270, 1), (271, 0), (272, 1), (273, 2), (274, 1), (275, 0), (276, 0), (277, 0), (278, 0), (279, 0)]
set_option maxRecDepth 100000 in
theorem VTb_6_0 : ∀ e ∈ ([(240, 2), (241, 3), (242, 0), (243, 3), (244, 1), (245, 0), (246, 0), (247, 1), (248, 1), (249, 1), (250, 0), (252, 0), (254, 0), (255, 0), (256, 0), (257, 0), (258, 0), (260, 0), (261, 1), (262, 0), (263, 0), (264, 1), (265, 2), (266, 0), (267, 0), (268, 1), (269, 2), (270, 1), (271, 0), (272, 1)] : List (Nat × Nat)), mok (mt e.1).1 (mt e.1).2.1 (mt e.1).2.2.2.1 (mt e.1).2.2.2.2.1 e.2 ∧ iok (mt e.1).1 ∧ (cl_all[(mt e.1).2.2.1]?).map (fun q => q.1) = some (mt e.1).1.cls := (List.forall_mem_cons.mpr ⟨⟨m_X1_layLoadNumber, i_X1_layLoadNumber, rfl⟩, (List.forall_mem_cons.mpr ⟨⟨m_X1_layMemory, i_X1_layMemory, rfl⟩, (List.forall_mem_cons.mpr ⟨⟨m_X1_layNext, i_X1_layNext, rfl⟩, (List.forall_mem_cons.mpr ⟨⟨m_X1_layNumber, i_X1_layNumber, rfl⟩, (List.forall_mem_cons.mpr ⟨⟨m_X1_layOne, i_X1_layOne, rfl⟩, (List.forall_mem_cons.mpr ⟨⟨m_X1_layPartial, i_X1_layPartial, rfl⟩, (List.forall_mem_cons.mpr ⟨⟨m_X1_layReturn, i_X1_layReturn, rfl⟩, (List.forall_mem_cons.mpr ⟨⟨m_X1_layTaking, i_X1_layTaking, rfl⟩, (List.forall_mem_cons.mpr ⟨⟨m_X1_layWord, i_X1_layWord, rfl⟩, (List.forall_mem_cons.mpr ⟨⟨m_X1_makeCode, i_X1_makeCode, rfl⟩, (List.forall_mem_cons.mpr ⟨⟨m_X1_markAligned, i_X1_markAligned, rfl⟩, (List.forall_mem_cons.mpr ⟨⟨m_X1_widenJumps, i_X1_widenJumps, rfl⟩, (List.forall_mem_cons.mpr ⟨⟨m_X2_dropAll, i_X2_dropAll, rfl⟩, (List.forall_mem_cons.mpr ⟨⟨m_X2_dropM, i_X2_dropM, rfl⟩, (List.forall_mem_cons.mpr ⟨⟨m_X2_findGoals, i_X2_findGoals, rfl⟩, (List.forall_mem_cons.mpr ⟨⟨m_X2_findRefused, i_X2_findRefused, rfl⟩, (List.forall_mem_cons.mpr ⟨⟨m_X2_forget, i_X2_forget, rfl⟩, (List.forall_mem_cons.mpr ⟨⟨m_X2_isConfined, i_X2_isConfined, rfl⟩, (List.forall_mem_cons.mpr ⟨⟨m_X2_isInstruction, i_X2_isInstruction, rfl⟩, (List.forall_mem_cons.mpr ⟨⟨m_X2_jumpsByNumber, i_X2_jumpsByNumber, rfl⟩, (List.forall_mem_cons.mpr ⟨⟨m_X2_keepMask, i_X2_keepMask, rfl⟩, (List.forall_mem_cons.mpr ⟨⟨m_X2_leadsWell, i_X2_leadsWell, rfl⟩, (List.forall_mem_cons.mpr ⟨⟨m_X2_look, i_X2_look, rfl⟩, (List.forall_mem_cons.mpr ⟨⟨m_X2_noteChain, i_X2_noteChain, rfl⟩, (List.forall_mem_cons.mpr ⟨⟨m_X2_noteMasks, i_X2_noteMasks, rfl⟩, (List.forall_mem_cons.mpr ⟨⟨m_X2_reasonAt, i_X2_reasonAt, rfl⟩, (List.forall_mem_cons.mpr ⟨⟨m_X3_await, i_X3_await, rfl⟩, (List.forall_mem_cons.mpr ⟨⟨m_X3_coreOf, i_X3_coreOf, rfl⟩, (List.forall_mem_cons.mpr ⟨⟨m_X3_followJumps, i_X3_followJumps, rfl⟩, (List.forall_mem_cons.mpr ⟨⟨m_X3_isDirect, i_X3_isDirect, rfl⟩, (fun _ h => absurd h List.not_mem_nil)⟩)⟩)⟩)⟩)⟩)⟩)⟩)⟩)⟩)⟩)⟩)⟩)⟩)⟩)⟩)⟩)⟩)⟩)⟩)⟩)⟩)⟩)⟩)⟩)⟩)⟩)⟩)⟩)⟩)⟩)
set_option maxRecDepth 100000 in
theorem VTb_6_1 : ∀ e ∈ ([(273, 2), (274, 1), (275, 0), (276, 0), (277, 0), (278, 0), (279, 0)] : List (Nat × Nat)), mok (mt e.1).1 (mt e.1).2.1 (mt e.1).2.2.2.1 (mt e.1).2.2.2.2.1 e.2 ∧ iok (mt e.1).1 ∧ (cl_all[(mt e.1).2.2.1]?).map (fun q => q.1) = some (mt e.1).1.cls := (List.forall_mem_cons.mpr ⟨⟨m_X3_isSet, i_X3_isSet, rfl⟩, (List.forall_mem_cons.mpr ⟨⟨m_X3_makeProgram, i_X3_makeProgram, rfl⟩, (List.forall_mem_cons.mpr ⟨⟨m_X3_measure, i_X3_measure, rfl⟩, (List.forall_mem_cons.mpr ⟨⟨m_X3_numberSets, i_X3_numberSets, rfl⟩, (List.forall_mem_cons.mpr ⟨⟨m_X3_placeRules, i_X3_placeRules, rfl⟩, (List.forall_mem_cons.mpr ⟨⟨m_X3_replaceCalls, i_X3_replaceCalls, rfl⟩, (List.forall_mem_cons.mpr ⟨⟨m_X3_replaceJumps, i_X3_replaceJumps, rfl⟩, (fun _ h => absurd h List.not_mem_nil)⟩)⟩)⟩)⟩)⟩)⟩)⟩)
set_option maxRecDepth 100000 in
theorem VTb_6_ok : ∀ e ∈ VTb_6, mok (mt e.1).1 (mt e.1).2.1 (mt e.1).2.2.2.1 (mt e.1).2.2.2.2.1 e.2 ∧ iok (mt e.1).1 ∧ (cl_all[(mt e.1).2.2.1]?).map (fun q => q.1) = some (mt e.1).1.cls := by
  intro e he
  have h : VTb_6 = ([(240, 2), (241, 3), (242, 0), (243, 3), (244, 1), (245, 0), (246, 0), (247, 1), (248, 1), (249, 1), (250, 0), (252, 0), (254, 0), (255, 0), (256, 0), (257, 0), (258, 0), (260, 0), (261, 1), (262, 0), (263, 0), (264, 1), (265, 2), (266, 0), (267, 0), (268, 1), (269, 2), (270, 1), (271, 0), (272, 1)] : List (Nat × Nat)) ++ ([(273, 2), (274, 1), (275, 0), (276, 0), (277, 0), (278, 0), (279, 0)] : List (Nat × Nat)) := rfl
  rw [h] at he
  simp only [List.mem_append] at he
  rcases he with (he | he)
  · exact VTb_6_0 e he
  · exact VTb_6_1 e he
def VTb_7 : List (Nat × Nat) := [(280, 1), (281, 0), (282, 1), (283, 1), (284, 2), (285, 4), (286, 2), (287, 4), (288, 2), (289, 2), (290, 2), (291, 2), (292, 2), (293, 4), (294, 0), (295, 3), (296, 0), (297, 1), (298, 0), (299, 0), (300, 0), (301, 1), (303, 0), (304, 0), (305, 1), (307, 0), (308, 1), (310, 1), (311, 0), (312, 0), (313, 0), (314, 0), (315, 1), (316, 0), (317, 2), (318, 0), (319, 1)]
set_option maxRecDepth 100000 in
theorem VTb_7_0 : ∀ e ∈ ([(280, 1), (281, 0), (282, 1), (283, 1), (284, 2), (285, 4), (286, 2), (287, 4), (288, 2), (289, 2), (290, 2), (291, 2), (292, 2), (293, 4), (294, 0), (295, 3), (296, 0), (297, 1), (298, 0), (299, 0), (300, 0), (301, 1), (303, 0), (304, 0), (305, 1), (307, 0), (308, 1), (310, 1), (311, 0), (312, 0)] : List (Nat × Nat)), mok (mt e.1).1 (mt e.1).2.1 (mt e.1).2.2.2.1 (mt e.1).2.2.2.2.1 e.2 ∧ iok (mt e.1).1 ∧ (cl_all[(mt e.1).2.2.1]?).map (fun q => q.1) = some (mt e.1).1.cls := (List.forall_mem_cons.mpr ⟨⟨m_X3_setNumber, i_X3_setNumber, rfl⟩, (List.forall_mem_cons.mpr ⟨⟨m_X3_shorten, i_X3_shorten, rfl⟩, (List.forall_mem_cons.mpr ⟨⟨m_X3_sizeOf, i_X3_sizeOf, rfl⟩, (List.forall_mem_cons.mpr ⟨⟨m_X3_starSize, i_X3_starSize, rfl⟩, (List.forall_mem_cons.mpr ⟨⟨m_X3_trySize, i_X3_trySize, rfl⟩, (List.forall_mem_cons.mpr ⟨⟨m_X3_write, i_X3_write, rfl⟩, (List.forall_mem_cons.mpr ⟨⟨m_X3_writeAnd, i_X3_writeAnd, rfl⟩, (List.forall_mem_cons.mpr ⟨⟨m_X3_writeByBytes, i_X3_writeByBytes, rfl⟩, (List.forall_mem_cons.mpr ⟨⟨m_X3_writeChoice, i_X3_writeChoice, rfl⟩, (List.forall_mem_cons.mpr ⟨⟨m_X3_writeNode, i_X3_writeNode, rfl⟩, (List.forall_mem_cons.mpr ⟨⟨m_X3_writeNot, i_X3_writeNot, rfl⟩, (List.forall_mem_cons.mpr ⟨⟨m_X3_writeOption, i_X3_writeOption, rfl⟩, (List.forall_mem_cons.mpr ⟨⟨m_X3_writeStar, i_X3_writeStar, rfl⟩, (List.forall_mem_cons.mpr ⟨⟨m_X3_writeTry, i_X3_writeTry, rfl⟩, (List.forall_mem_cons.mpr ⟨⟨m_X3_writeWaiting, i_X3_writeWaiting, rfl⟩, (List.forall_mem_cons.mpr ⟨⟨m_X4_decode, i_X4_decode, rfl⟩, (List.forall_mem_cons.mpr ⟨⟨m_X4_decodeArithmetic, i_X4_decodeArithmetic, rfl⟩, (List.forall_mem_cons.mpr ⟨⟨m_X4_decodeM, i_X4_decodeM, rfl⟩, (List.forall_mem_cons.mpr ⟨⟨m_X4_decodeMoves, i_X4_decodeMoves, rfl⟩, (List.forall_mem_cons.mpr ⟨⟨m_X4_decodeOthers, i_X4_decodeOthers, rfl⟩, (List.forall_mem_cons.mpr ⟨⟨m_X4_decodeThird, i_X4_decodeThird, rfl⟩, (List.forall_mem_cons.mpr ⟨⟨m_X4_decodeTwo, i_X4_decodeTwo, rfl⟩, (List.forall_mem_cons.mpr ⟨⟨m_X4_nextByte, i_X4_nextByte, rfl⟩, (List.forall_mem_cons.mpr ⟨⟨m_X4_nextWord, i_X4_nextWord, rfl⟩, (List.forall_mem_cons.mpr ⟨⟨m_X4_refuseIf, i_X4_refuseIf, rfl⟩, (List.forall_mem_cons.mpr ⟨⟨m_X5_bindNames, i_X5_bindNames, rfl⟩, (List.forall_mem_cons.mpr ⟨⟨m_X5_blame, i_X5_blame, rfl⟩, (List.forall_mem_cons.mpr ⟨⟨m_X5_factsOf, i_X5_factsOf, rfl⟩, (List.forall_mem_cons.mpr ⟨⟨m_X5_findBegins, i_X5_findBegins, rfl⟩, (List.forall_mem_cons.mpr ⟨⟨m_X5_findEndless, i_X5_findEndless, rfl⟩, (fun _ h => absurd h List.not_mem_nil)⟩)⟩)⟩)⟩)⟩)⟩)⟩)⟩)⟩)⟩)⟩)⟩)⟩)⟩)⟩)⟩)⟩)⟩)⟩)⟩)⟩)⟩)⟩)⟩)⟩)⟩)⟩)⟩)⟩)⟩)
set_option maxRecDepth 100000 in
theorem VTb_7_1 : ∀ e ∈ ([(313, 0), (314, 0), (315, 1), (316, 0), (317, 2), (318, 0), (319, 1)] : List (Nat × Nat)), mok (mt e.1).1 (mt e.1).2.1 (mt e.1).2.2.2.1 (mt e.1).2.2.2.2.1 e.2 ∧ iok (mt e.1).1 ∧ (cl_all[(mt e.1).2.2.1]?).map (fun q => q.1) = some (mt e.1).1.cls := (List.forall_mem_cons.mpr ⟨⟨m_X5_findFacts, i_X5_findFacts, rfl⟩, (List.forall_mem_cons.mpr ⟨⟨m_X5_findFirsts, i_X5_findFirsts, rfl⟩, (List.forall_mem_cons.mpr ⟨⟨m_X5_findKind, i_X5_findKind, rfl⟩, (List.forall_mem_cons.mpr ⟨⟨m_X5_findLeft, i_X5_findLeft, rfl⟩, (List.forall_mem_cons.mpr ⟨⟨m_X5_findRule, i_X5_findRule, rfl⟩, (List.forall_mem_cons.mpr ⟨⟨m_X5_findSecondNames, i_X5_findSecondNames, rfl⟩, (List.forall_mem_cons.mpr ⟨⟨m_X5_goesRight, i_X5_goesRight, rfl⟩, (fun _ h => absurd h List.not_mem_nil)⟩)⟩)⟩)⟩)⟩)⟩)⟩)
set_option maxRecDepth 100000 in
theorem VTb_7_ok : ∀ e ∈ VTb_7, mok (mt e.1).1 (mt e.1).2.1 (mt e.1).2.2.2.1 (mt e.1).2.2.2.2.1 e.2 ∧ iok (mt e.1).1 ∧ (cl_all[(mt e.1).2.2.1]?).map (fun q => q.1) = some (mt e.1).1.cls := by
  intro e he
  have h : VTb_7 = ([(280, 1), (281, 0), (282, 1), (283, 1), (284, 2), (285, 4), (286, 2), (287, 4), (288, 2), (289, 2), (290, 2), (291, 2), (292, 2), (293, 4), (294, 0), (295, 3), (296, 0), (297, 1), (298, 0), (299, 0), (300, 0), (301, 1), (303, 0), (304, 0), (305, 1), (307, 0), (308, 1), (310, 1), (311, 0), (312, 0)] : List (Nat × Nat)) ++ ([(313, 0), (314, 0), (315, 1), (316, 0), (317, 2), (318, 0), (319, 1)] : List (Nat × Nat)) := rfl
  rw [h] at he
  simp only [List.mem_append] at he
  rcases he with (he | he)
  · exact VTb_7_0 e he
  · exact VTb_7_1 e he
def VTb_8 : List (Nat × Nat) := [(320, 2), (321, 3), (322, 2), (323, 3), (324, 2), (325, 1), (326, 1), (327, 0), (328, 1), (329, 1), (330, 2), (331, 2), (332, 0), (333, 1), (335, 1), (336, 1), (337, 1), (338, 0), (339, 2), (340, 1), (341, 1), (342, 0), (343, 1), (344, 0), (345, 2), (346, 0), (347, 2), (348, 1), (349, 1), (350, 1), (351, 2), (352, 1), (353, 2), (355, 1), (356, 1), (357, 0), (358, 0), (359, 0)]
set_option maxRecDepth 100000 in
theorem VTb_8_0 : ∀ e ∈ ([(320, 2), (321, 3), (322, 2), (323, 3), (324, 2), (325, 1), (326, 1), (327, 0), (328, 1), (329, 1), (330, 2), (331, 2), (332, 0), (333, 1), (335, 1), (336, 1), (337, 1), (338, 0), (339, 2), (340, 1), (341, 1), (342, 0), (343, 1), (344, 0), (345, 2), (346, 0), (347, 2), (348, 1), (349, 1), (350, 1)] : List (Nat × Nat)), mok (mt e.1).1 (mt e.1).2.1 (mt e.1).2.2.2.1 (mt e.1).2.2.2.2.1 e.2 ∧ iok (mt e.1).1 ∧ (cl_all[(mt e.1).2.2.1]?).map (fun q => q.1) = some (mt e.1).1.cls := (List.forall_mem_cons.mpr ⟨⟨m_X5_joinFirst, i_X5_joinFirst, rfl⟩, (List.forall_mem_cons.mpr ⟨⟨m_X5_sameBytes, i_X5_sameBytes, rfl⟩, (List.forall_mem_cons.mpr ⟨⟨m_X5_takeFirsts, i_X5_takeFirsts, rfl⟩, (List.forall_mem_cons.mpr ⟨⟨m_X6_note, i_X6_note, rfl⟩, (List.forall_mem_cons.mpr ⟨⟨m_X6_noteEvents, i_X6_noteEvents, rfl⟩, (List.forall_mem_cons.mpr ⟨⟨m_X7_calculate, i_X7_calculate, rfl⟩, (List.forall_mem_cons.mpr ⟨⟨m_X7_calculateLong, i_X7_calculateLong, rfl⟩, (List.forall_mem_cons.mpr ⟨⟨m_X7_clearData, i_X7_clearData, rfl⟩, (List.forall_mem_cons.mpr ⟨⟨m_X7_divide, i_X7_divide, rfl⟩, (List.forall_mem_cons.mpr ⟨⟨m_X7_divideSigned, i_X7_divideSigned, rfl⟩, (List.forall_mem_cons.mpr ⟨⟨m_X7_fillData, i_X7_fillData, rfl⟩, (List.forall_mem_cons.mpr ⟨⟨m_X7_fillSets, i_X7_fillSets, rfl⟩, (List.forall_mem_cons.mpr ⟨⟨m_X7_findAddress, i_X7_findAddress, rfl⟩, (List.forall_mem_cons.mpr ⟨⟨m_X7_goTo, i_X7_goTo, rfl⟩, (List.forall_mem_cons.mpr ⟨⟨m_X7_jump, i_X7_jump, rfl⟩, (List.forall_mem_cons.mpr ⟨⟨m_X7_makeSteps, i_X7_makeSteps, rfl⟩, (List.forall_mem_cons.mpr ⟨⟨m_X7_move, i_X7_move, rfl⟩, (List.forall_mem_cons.mpr ⟨⟨m_X7_pop, i_X7_pop, rfl⟩, (List.forall_mem_cons.mpr ⟨⟨m_X7_prepare, i_X7_prepare, rfl⟩, (List.forall_mem_cons.mpr ⟨⟨m_X7_push, i_X7_push, rfl⟩, (List.forall_mem_cons.mpr ⟨⟨m_X7_readByteRegister, i_X7_readByteRegister, rfl⟩, (List.forall_mem_cons.mpr ⟨⟨m_X7_readM, i_X7_readM, rfl⟩, (List.forall_mem_cons.mpr ⟨⟨m_X7_readWord, i_X7_readWord, rfl⟩, (List.forall_mem_cons.mpr ⟨⟨m_X7_sumOfM, i_X7_sumOfM, rfl⟩, (List.forall_mem_cons.mpr ⟨⟨m_X7_takeCode, i_X7_takeCode, rfl⟩, (List.forall_mem_cons.mpr ⟨⟨m_X7_tryStep, i_X7_tryStep, rfl⟩, (List.forall_mem_cons.mpr ⟨⟨m_X7_writeByteRegister, i_X7_writeByteRegister, rfl⟩, (List.forall_mem_cons.mpr ⟨⟨m_X7_writeLong, i_X7_writeLong, rfl⟩, (List.forall_mem_cons.mpr ⟨⟨m_X7_writeM, i_X7_writeM, rfl⟩, (List.forall_mem_cons.mpr ⟨⟨m_X7_writeUnlessCompared, i_X7_writeUnlessCompared, rfl⟩, (fun _ h => absurd h List.not_mem_nil)⟩)⟩)⟩)⟩)⟩)⟩)⟩)⟩)⟩)⟩)⟩)⟩)⟩)⟩)⟩)⟩)⟩)⟩)⟩)⟩)⟩)⟩)⟩)⟩)⟩)⟩)⟩)⟩)⟩)⟩)
set_option maxRecDepth 100000 in
theorem VTb_8_1 : ∀ e ∈ ([(351, 2), (352, 1), (353, 2), (355, 1), (356, 1), (357, 0), (358, 0), (359, 0)] : List (Nat × Nat)), mok (mt e.1).1 (mt e.1).2.1 (mt e.1).2.2.2.1 (mt e.1).2.2.2.2.1 e.2 ∧ iok (mt e.1).1 ∧ (cl_all[(mt e.1).2.2.1]?).map (fun q => q.1) = some (mt e.1).1.cls := (List.forall_mem_cons.mpr ⟨⟨m_X7_writeWord, i_X7_writeWord, rfl⟩, (List.forall_mem_cons.mpr ⟨⟨m_X8_usesSet, i_X8_usesSet, rfl⟩, (List.forall_mem_cons.mpr ⟨⟨m_X9_addPlain, i_X9_addPlain, rfl⟩, (List.forall_mem_cons.mpr ⟨⟨m_X9_readByte, i_X9_readByte, rfl⟩, (List.forall_mem_cons.mpr ⟨⟨m_X9_readChoice, i_X9_readChoice, rfl⟩, (List.forall_mem_cons.mpr ⟨⟨m_X9_readClass, i_X9_readClass, rfl⟩, (List.forall_mem_cons.mpr ⟨⟨m_X9_readEscape, i_X9_readEscape, rfl⟩, (List.forall_mem_cons.mpr ⟨⟨m_X9_readLiteral, i_X9_readLiteral, rfl⟩, (fun _ h => absurd h List.not_mem_nil)⟩)⟩)⟩)⟩)⟩)⟩)⟩)⟩)
set_option maxRecDepth 100000 in
theorem VTb_8_ok : ∀ e ∈ VTb_8, mok (mt e.1).1 (mt e.1).2.1 (mt e.1).2.2.2.1 (mt e.1).2.2.2.2.1 e.2 ∧ iok (mt e.1).1 ∧ (cl_all[(mt e.1).2.2.1]?).map (fun q => q.1) = some (mt e.1).1.cls := by
  intro e he
  have h : VTb_8 = ([(320, 2), (321, 3), (322, 2), (323, 3), (324, 2), (325, 1), (326, 1), (327, 0), (328, 1), (329, 1), (330, 2), (331, 2), (332, 0), (333, 1), (335, 1), (336, 1), (337, 1), (338, 0), (339, 2), (340, 1), (341, 1), (342, 0), (343, 1), (344, 0), (345, 2), (346, 0), (347, 2), (348, 1), (349, 1), (350, 1)] : List (Nat × Nat)) ++ ([(351, 2), (352, 1), (353, 2), (355, 1), (356, 1), (357, 0), (358, 0), (359, 0)] : List (Nat × Nat)) := rfl
  rw [h] at he
  simp only [List.mem_append] at he
  rcases he with (he | he)
  · exact VTb_8_0 e he
  · exact VTb_8_1 e he
def VTb_9 : List (Nat × Nat) := [(360, 2), (361, 0), (362, 1), (363, 1), (364, 1), (365, 1), (366, 1), (367, 1), (368, 2), (369, 0), (370, 0), (371, 0), (374, 1)]
set_option maxRecDepth 100000 in
theorem VTb_9_0 : ∀ e ∈ ([(360, 2), (361, 0), (362, 1), (363, 1), (364, 1), (365, 1), (366, 1), (367, 1), (368, 2), (369, 0), (370, 0), (371, 0), (374, 1)] : List (Nat × Nat)), mok (mt e.1).1 (mt e.1).2.1 (mt e.1).2.2.2.1 (mt e.1).2.2.2.2.1 e.2 ∧ iok (mt e.1).1 ∧ (cl_all[(mt e.1).2.2.1]?).map (fun q => q.1) = some (mt e.1).1.cls := (List.forall_mem_cons.mpr ⟨⟨m_X9_readLoop, i_X9_readLoop, rfl⟩, (List.forall_mem_cons.mpr ⟨⟨m_X9_readName, i_X9_readName, rfl⟩, (List.forall_mem_cons.mpr ⟨⟨m_X9_readPrefix, i_X9_readPrefix, rfl⟩, (List.forall_mem_cons.mpr ⟨⟨m_X9_readPrimary, i_X9_readPrimary, rfl⟩, (List.forall_mem_cons.mpr ⟨⟨m_X9_readRepeat, i_X9_readRepeat, rfl⟩, (List.forall_mem_cons.mpr ⟨⟨m_X9_readRule, i_X9_readRule, rfl⟩, (List.forall_mem_cons.mpr ⟨⟨m_X9_readSequence, i_X9_readSequence, rfl⟩, (List.forall_mem_cons.mpr ⟨⟨m_X9_readSuffix, i_X9_readSuffix, rfl⟩, (List.forall_mem_cons.mpr ⟨⟨m_X9_readText, i_X9_readText, rfl⟩, (List.forall_mem_cons.mpr ⟨⟨m_X9_refuse, i_X9_refuse, rfl⟩, (List.forall_mem_cons.mpr ⟨⟨m_X9_sign, i_X9_sign, rfl⟩, (List.forall_mem_cons.mpr ⟨⟨m_X9_skipBlanks, i_X9_skipBlanks, rfl⟩, (List.forall_mem_cons.mpr ⟨⟨m_X9_takeSign, i_X9_takeSign, rfl⟩, (fun _ h => absurd h List.not_mem_nil)⟩)⟩)⟩)⟩)⟩)⟩)⟩)⟩)⟩)⟩)⟩)⟩)⟩)
set_option maxRecDepth 100000 in
theorem VTb_9_ok : ∀ e ∈ VTb_9, mok (mt e.1).1 (mt e.1).2.1 (mt e.1).2.2.2.1 (mt e.1).2.2.2.2.1 e.2 ∧ iok (mt e.1).1 ∧ (cl_all[(mt e.1).2.2.1]?).map (fun q => q.1) = some (mt e.1).1.cls := by
  intro e he
  have h : VTb_9 = ([(360, 2), (361, 0), (362, 1), (363, 1), (364, 1), (365, 1), (366, 1), (367, 1), (368, 2), (369, 0), (370, 0), (371, 0), (374, 1)] : List (Nat × Nat)) := rfl
  rw [h] at he
  exact VTb_9_0 e he
def VTb (n : Nat) : List (Nat × Nat) := match n with
  | 0 => VTb_0
  | 1 => VTb_1
  | 2 => VTb_2
  | 3 => VTb_3
  | 4 => VTb_4
  | 5 => VTb_5
  | 6 => VTb_6
  | 7 => VTb_7
  | 8 => VTb_8
  | 9 => VTb_9
  | _ => []
theorem VTb_ok : ∀ (n : Nat), ∀ e ∈ VTb n, mok (mt e.1).1 (mt e.1).2.1 (mt e.1).2.2.2.1 (mt e.1).2.2.2.2.1 e.2 ∧ iok (mt e.1).1 ∧ (cl_all[(mt e.1).2.2.1]?).map (fun q => q.1) = some (mt e.1).1.cls := by
  intro n e he
  unfold VTb at he
  split at he
  · exact VTb_0_ok e he
  · exact VTb_1_ok e he
  · exact VTb_2_ok e he
  · exact VTb_3_ok e he
  · exact VTb_4_ok e he
  · exact VTb_5_ok e he
  · exact VTb_6_ok e he
  · exact VTb_7_ok e he
  · exact VTb_8_ok e he
  · exact VTb_9_ok e he
  · cases he
def STb_0 : List (Nat × Nat) := [(0, 1), (1, 2), (2, 2), (3, 1), (4, 2), (5, 2), (6, 4), (7, 3), (17, 1), (65, 1), (66, 1), (119, 1), (121, 1), (132, 2), (180, 1), (251, 3), (253, 2), (259, 2), (302, 1), (306, 1), (309, 2), (334, 1), (354, 1), (372, 1), (373, 1)]
set_option maxRecDepth 100000 in
theorem STb_0_0 : ∀ e ∈ ([(0, 1), (1, 2), (2, 2), (3, 1), (4, 2), (5, 2), (6, 4), (7, 3), (17, 1), (65, 1), (66, 1), (119, 1), (121, 1), (132, 2), (180, 1), (251, 3), (253, 2), (259, 2), (302, 1), (306, 1), (309, 2), (334, 1), (354, 1), (372, 1), (373, 1)] : List (Nat × Nat)), mok (mt e.1).1 (mt e.1).2.1 (mt e.1).2.2.2.1 (mt e.1).2.2.2.2.1 e.2 ∧ Cond.static (mt e.1).1 ∈ gw := (List.forall_mem_cons.mpr ⟨⟨m_J13_bitCount_95d88, s_J13_bitCount_95d88⟩, (List.forall_mem_cons.mpr ⟨⟨m_J13_divideUnsigned_f86c9, s_J13_divideUnsigned_f86c9⟩, (List.forall_mem_cons.mpr ⟨⟨m_J13_remainderUnsigned_f86c9, s_J13_remainderUnsigned_f86c9⟩, (List.forall_mem_cons.mpr ⟨⟨m_J6_bitCount_0f7a4, s_J6_bitCount_0f7a4⟩, (List.forall_mem_cons.mpr ⟨⟨m_J7_fill_031fb, s_J7_fill_031fb⟩, (List.forall_mem_cons.mpr ⟨⟨m_J7_fill_53178, s_J7_fill_53178⟩, (List.forall_mem_cons.mpr ⟨⟨m_J7_fill_fda19, s_J7_fill_fda19⟩, (List.forall_mem_cons.mpr ⟨⟨m_J7_rangeCheck_23922, s_J7_rangeCheck_23922⟩, (List.forall_mem_cons.mpr ⟨⟨m_X0_shownBy, s_X0_shownBy⟩, (List.forall_mem_cons.mpr ⟨⟨m_X14_beginsName, s_X14_beginsName⟩, (List.forall_mem_cons.mpr ⟨⟨m_X14_beginsPrimary, s_X14_beginsPrimary⟩, (List.forall_mem_cons.mpr ⟨⟨m_X14_hasTarget, s_X14_hasTarget⟩, (List.forall_mem_cons.mpr ⟨⟨m_X14_hex, s_X14_hex⟩, (List.forall_mem_cons.mpr ⟨⟨m_X14_isData, s_X14_isData⟩, (List.forall_mem_cons.mpr ⟨⟨m_X14_plain, s_X14_plain⟩, (List.forall_mem_cons.mpr ⟨⟨m_X1_second, s_X1_second⟩, (List.forall_mem_cons.mpr ⟨⟨m_X2_addBit, s_X2_addBit⟩, (List.forall_mem_cons.mpr ⟨⟨m_X2_hasBit, s_X2_hasBit⟩, (List.forall_mem_cons.mpr ⟨⟨m_X4_lastKind, s_X4_lastKind⟩, (List.forall_mem_cons.mpr ⟨⟨m_X4_unaryKind, s_X4_unaryKind⟩, (List.forall_mem_cons.mpr ⟨⟨m_X5_factsInRow, s_X5_factsInRow⟩, (List.forall_mem_cons.mpr ⟨⟨m_X7_holdsWord, s_X7_holdsWord⟩, (List.forall_mem_cons.mpr ⟨⟨m_X9_hexValue, s_X9_hexValue⟩, (List.forall_mem_cons.mpr ⟨⟨m_X9_startsName, s_X9_startsName⟩, (List.forall_mem_cons.mpr ⟨⟨m_X9_startsPrefix, s_X9_startsPrefix⟩, (fun _ h => absurd h List.not_mem_nil)⟩)⟩)⟩)⟩)⟩)⟩)⟩)⟩)⟩)⟩)⟩)⟩)⟩)⟩)⟩)⟩)⟩)⟩)⟩)⟩)⟩)⟩)⟩)⟩)⟩)
set_option maxRecDepth 100000 in
theorem STb_0_ok : ∀ e ∈ STb_0, mok (mt e.1).1 (mt e.1).2.1 (mt e.1).2.2.2.1 (mt e.1).2.2.2.2.1 e.2 ∧ Cond.static (mt e.1).1 ∈ gw := by
  intro e he
  have h : STb_0 = ([(0, 1), (1, 2), (2, 2), (3, 1), (4, 2), (5, 2), (6, 4), (7, 3), (17, 1), (65, 1), (66, 1), (119, 1), (121, 1), (132, 2), (180, 1), (251, 3), (253, 2), (259, 2), (302, 1), (306, 1), (309, 2), (334, 1), (354, 1), (372, 1), (373, 1)] : List (Nat × Nat)) := rfl
  rw [h] at he
  exact STb_0_0 e he
def STb (n : Nat) : List (Nat × Nat) := match n with
  | 0 => STb_0
  | _ => []
theorem STb_ok : ∀ (n : Nat), ∀ e ∈ STb n, mok (mt e.1).1 (mt e.1).2.1 (mt e.1).2.2.2.1 (mt e.1).2.2.2.2.1 e.2 ∧ Cond.static (mt e.1).1 ∈ gw := by
  intro n e he
  unfold STb at he
  split at he
  · exact STb_0_ok e he
  · cases he
set_option maxRecDepth 100000 in
theorem ac_nat : Cond.native arraycopyName ∈ gw := gwt_4 105 rfl rfl
set_option maxRecDepth 100000 in
theorem ac_sta : Cond.static arraycopyName ∈ gw := gwt_4 104 rfl rfl
set_option maxRecDepth 100000 in
theorem ac_ini : Cond.initialized "java/lang/System" ∈ gw := gwt_1 22 rfl rfl
set_option maxRecDepth 100000 in
theorem ma_max : Cond.static Lib.Math.max.name ∈ gw ∧ Cond.initialized "java/lang/Math" ∈ gw ∧ Cond.code Lib.Math.max.name Lib.Math.max.code 2 (some .int) ∈ gw := ⟨gwt_6 156 rfl rfl, gwt_1 21 rfl rfl, gw_at 1629 (by decide +kernel) (by decide +kernel)⟩
set_option maxRecDepth 100000 in
theorem ma_min : Cond.static Lib.Math.min.name ∈ gw ∧ Cond.initialized "java/lang/Math" ∈ gw ∧ Cond.code Lib.Math.min.name Lib.Math.min.code 2 (some .int) ∈ gw := ⟨gwt_4 93 rfl rfl, gwt_1 21 rfl rfl, gw_at 1086 (by decide +kernel) (by decide +kernel)⟩
def YTb_2 : List (Nat × Int) := [(57, 9), (99, 8)]
set_option maxRecDepth 100000 in
theorem YTb_2_0 : ∀ e ∈ ([(57, 9), (99, 8)] : List (Nat × Int)), yok (rx 2) (.invokestatic e.1) e.2 := (List.forall_mem_cons.mpr ⟨⟨(fun z => absurd z (by decide)), (fun z => absurd z (by decide)), fun _ => ⟨gwt_6 137 rfl rfl, ma_min⟩⟩, (List.forall_mem_cons.mpr ⟨⟨(fun z => absurd z (by decide)), fun _ => ⟨gwt_6 155 rfl rfl, ma_max⟩, (fun z => absurd z (by decide))⟩, (fun _ h => absurd h List.not_mem_nil)⟩)⟩)
set_option maxRecDepth 100000 in
theorem YTb_2_ok : ∀ e ∈ YTb_2, yok (rx 2) (.invokestatic e.1) e.2 := by
  intro e he
  have h : YTb_2 = ([(57, 9), (99, 8)] : List (Nat × Int)) := rfl
  rw [h] at he
  exact YTb_2_0 e he
def YTb_3 : List (Nat × Int) := [(80, 9), (126, 7)]
set_option maxRecDepth 100000 in
theorem YTb_3_0 : ∀ e ∈ ([(80, 9), (126, 7)] : List (Nat × Int)), yok (rx 3) (.invokestatic e.1) e.2 := (List.forall_mem_cons.mpr ⟨⟨(fun z => absurd z (by decide)), (fun z => absurd z (by decide)), fun _ => ⟨gwt_4 92 rfl rfl, ma_min⟩⟩, (List.forall_mem_cons.mpr ⟨⟨fun _ => ⟨gwt_4 103 rfl rfl, ac_nat, ac_sta, ac_ini⟩, (fun z => absurd z (by decide)), (fun z => absurd z (by decide))⟩, (fun _ h => absurd h List.not_mem_nil)⟩)⟩)
set_option maxRecDepth 100000 in
theorem YTb_3_ok : ∀ e ∈ YTb_3, yok (rx 3) (.invokestatic e.1) e.2 := by
  intro e he
  have h : YTb_3 = ([(80, 9), (126, 7)] : List (Nat × Int)) := rfl
  rw [h] at he
  exact YTb_3_0 e he
def YTb_4 : List (Nat × Int) := [(65, 9)]
set_option maxRecDepth 100000 in
theorem YTb_4_0 : ∀ e ∈ ([(65, 9)] : List (Nat × Int)), yok (rx 4) (.invokestatic e.1) e.2 := (List.forall_mem_cons.mpr ⟨⟨(fun z => absurd z (by decide)), (fun z => absurd z (by decide)), fun _ => ⟨gwt_5 169 rfl rfl, ma_min⟩⟩, (fun _ h => absurd h List.not_mem_nil)⟩)
set_option maxRecDepth 100000 in
theorem YTb_4_ok : ∀ e ∈ YTb_4, yok (rx 4) (.invokestatic e.1) e.2 := by
  intro e he
  have h : YTb_4 = ([(65, 9)] : List (Nat × Int)) := rfl
  rw [h] at he
  exact YTb_4_0 e he
def YTb_6 : List (Nat × Int) := [(36, 9)]
set_option maxRecDepth 100000 in
theorem YTb_6_0 : ∀ e ∈ ([(36, 9)] : List (Nat × Int)), yok (rx 6) (.invokestatic e.1) e.2 := (List.forall_mem_cons.mpr ⟨⟨(fun z => absurd z (by decide)), (fun z => absurd z (by decide)), fun _ => ⟨gwt_6 109 rfl rfl, ma_min⟩⟩, (fun _ h => absurd h List.not_mem_nil)⟩)
set_option maxRecDepth 100000 in
theorem YTb_6_ok : ∀ e ∈ YTb_6, yok (rx 6) (.invokestatic e.1) e.2 := by
  intro e he
  have h : YTb_6 = ([(36, 9)] : List (Nat × Int)) := rfl
  rw [h] at he
  exact YTb_6_0 e he
def YTb_7 : List (Nat × Int) := [(61, 9), (67, 7)]
set_option maxRecDepth 100000 in
theorem YTb_7_0 : ∀ e ∈ ([(61, 9), (67, 7)] : List (Nat × Int)), yok (rx 7) (.invokestatic e.1) e.2 := (List.forall_mem_cons.mpr ⟨⟨(fun z => absurd z (by decide)), (fun z => absurd z (by decide)), fun _ => ⟨gwt_5 117 rfl rfl, ma_min⟩⟩, (List.forall_mem_cons.mpr ⟨⟨fun _ => ⟨gwt_5 118 rfl rfl, ac_nat, ac_sta, ac_ini⟩, (fun z => absurd z (by decide)), (fun z => absurd z (by decide))⟩, (fun _ h => absurd h List.not_mem_nil)⟩)⟩)
set_option maxRecDepth 100000 in
theorem YTb_7_ok : ∀ e ∈ YTb_7, yok (rx 7) (.invokestatic e.1) e.2 := by
  intro e he
  have h : YTb_7 = ([(61, 9), (67, 7)] : List (Nat × Int)) := rfl
  rw [h] at he
  exact YTb_7_0 e he
def YTb_11 : List (Nat × Int) := [(172, 7)]
set_option maxRecDepth 100000 in
theorem YTb_11_0 : ∀ e ∈ ([(172, 7)] : List (Nat × Int)), yok (rx 11) (.invokestatic e.1) e.2 := (List.forall_mem_cons.mpr ⟨⟨fun _ => ⟨gwt_5 108 rfl rfl, ac_nat, ac_sta, ac_ini⟩, (fun z => absurd z (by decide)), (fun z => absurd z (by decide))⟩, (fun _ h => absurd h List.not_mem_nil)⟩)
set_option maxRecDepth 100000 in
theorem YTb_11_ok : ∀ e ∈ YTb_11, yok (rx 11) (.invokestatic e.1) e.2 := by
  intro e he
  have h : YTb_11 = ([(172, 7)] : List (Nat × Int)) := rfl
  rw [h] at he
  exact YTb_11_0 e he
def YTb (n : Nat) : List (Nat × Int) := match n with
  | 2 => YTb_2
  | 3 => YTb_3
  | 4 => YTb_4
  | 6 => YTb_6
  | 7 => YTb_7
  | 11 => YTb_11
  | _ => []
theorem YTb_ok : ∀ (n : Nat), ∀ e ∈ YTb n, yok (rx n) (.invokestatic e.1) e.2 := by
  intro n e he
  unfold YTb at he
  split at he
  · exact YTb_2_ok e he
  · exact YTb_3_ok e he
  · exact YTb_4_ok e he
  · exact YTb_6_ok e he
  · exact YTb_7_ok e he
  · exact YTb_11_ok e he
  · cases he

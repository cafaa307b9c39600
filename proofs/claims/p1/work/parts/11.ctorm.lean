theorem dX13_init_0 : decode cX13_init 0 = .ok (.aload_n 0, 1) := by decide +kernel
theorem dX13_init_1 : decode cX13_init 1 = .ok (.invokespecial 3, 3) := by decide +kernel
theorem dX13_init_4 : decode cX13_init 4 = .ok (.aload_n 0, 1) := by decide +kernel
theorem dX13_init_5 : decode cX13_init 5 = .ok (.sipush 2001, 3) := by decide +kernel
theorem dX13_init_8 : decode cX13_init 8 = .ok (.newarray .int, 2) := by decide +kernel
theorem dX13_init_10 : decode cX13_init 10 = .ok (.putfield 9, 3) := by decide +kernel
theorem dX13_init_13 : decode cX13_init 13 = .ok (.aload_n 0, 1) := by decide +kernel
theorem dX13_init_14 : decode cX13_init 14 = .ok (.sipush 2001, 3) := by decide +kernel
theorem dX13_init_17 : decode cX13_init 17 = .ok (.newarray .int, 2) := by decide +kernel
theorem dX13_init_19 : decode cX13_init 19 = .ok (.putfield 15, 3) := by decide +kernel
theorem dX13_init_22 : decode cX13_init 22 = .ok (.aload_n 0, 1) := by decide +kernel
theorem dX13_init_23 : decode cX13_init 23 = .ok (.sipush 2001, 3) := by decide +kernel
theorem dX13_init_26 : decode cX13_init 26 = .ok (.newarray .int, 2) := by decide +kernel
theorem dX13_init_28 : decode cX13_init 28 = .ok (.putfield 18, 3) := by decide +kernel
theorem dX13_init_31 : decode cX13_init 31 = .ok (.aload_n 0, 1) := by decide +kernel
theorem dX13_init_32 : decode cX13_init 32 = .ok (.sipush 2004, 3) := by decide +kernel
theorem dX13_init_35 : decode cX13_init 35 = .ok (.newarray .int, 2) := by decide +kernel
theorem dX13_init_37 : decode cX13_init 37 = .ok (.putfield 21, 3) := by decide +kernel
theorem dX13_init_40 : decode cX13_init 40 = .ok (.aload_n 0, 1) := by decide +kernel
theorem dX13_init_41 : decode cX13_init 41 = .ok (.sipush 1032, 3) := by decide +kernel
theorem dX13_init_44 : decode cX13_init 44 = .ok (.newarray .int, 2) := by decide +kernel
theorem dX13_init_46 : decode cX13_init 46 = .ok (.putfield 24, 3) := by decide +kernel
theorem dX13_init_49 : decode cX13_init 49 = .ok (.aload_n 0, 1) := by decide +kernel
theorem dX13_init_50 : decode cX13_init 50 = .ok (.ldc 27, 2) := by decide +kernel
theorem dX13_init_52 : decode cX13_init 52 = .ok (.newarray .byte, 2) := by decide +kernel
theorem dX13_init_54 : decode cX13_init 54 = .ok (.putfield 28, 3) := by decide +kernel
theorem dX13_init_57 : decode cX13_init 57 = .ok (.aload_n 0, 1) := by decide +kernel
theorem dX13_init_58 : decode cX13_init 58 = .ok (.sipush 720, 3) := by decide +kernel
theorem dX13_init_61 : decode cX13_init 61 = .ok (.newarray .int, 2) := by decide +kernel
theorem dX13_init_63 : decode cX13_init 63 = .ok (.putfield 32, 3) := by decide +kernel
theorem dX13_init_66 : decode cX13_init 66 = .ok (.return_, 1) := by decide +kernel
def t_87 (σ : Hp) : Hp := (pR (nA (pR (nA (pR (nA (pR (nA (pR (nA (pR (nA (pR (nA σ 88) 87 5 (some 88)) 89) 87 6 (some 89)) 90) 87 7 (some 90)) 91) 87 8 (some 91)) 92) 87 9 (some 92)) 93) 87 10 (some 93)) 94) 87 11 (some 94))
set_option maxRecDepth 100000 in
theorem c_87 (σ : Hp) : Cx yX13_init cX13_init 1 none 1 88 95 [.ref 87] σ (fun o τ => o = .inl none ∧ τ = t_87 σ) := by
  refine Cx_of RX13 true (by decide) rfl (fun _ => rfl) (Nat.le_of_ble_eq_true rfl) rfl (Nat.le_of_ble_eq_true rfl) ?_
  refine Wx_aload0 dX13_init_0 ?_
  refine Wx_objInit ob_X13 ob_im ob_co dX13_init_1 (Nat.le_of_ble_eq_true rfl) (Nat.le_of_ble_eq_true rfl) ?_
  refine Wx_aload0 dX13_init_4 ?_
  refine Wx_sipush (v := 2001) dX13_init_5 (by decide) ?_
  refine Wx_newa 1 2001 dX13_init_8 rfl (by decide) ac_int rfl (by decide) (by decide) (by decide) (Nat.le_of_ble_eq_true rfl) ?_
  refine Wx_putRF 13 5 dX13_init_10 f_X13_9 rfl (Nat.le_of_ble_eq_true rfl) rfl rfl rfl rfl ⟨_, _, _, rfl, gwt_7 74 rfl rfl⟩ ?_
  refine Wx_aload0 dX13_init_13 ?_
  refine Wx_sipush (v := 2001) dX13_init_14 (by decide) ?_
  refine Wx_newa 1 2001 dX13_init_17 rfl (by decide) ac_int rfl (by decide) (by decide) (by decide) (Nat.le_of_ble_eq_true rfl) ?_
  refine Wx_putRF 13 6 dX13_init_19 f_X13_15 rfl (Nat.le_of_ble_eq_true rfl) rfl rfl rfl rfl ⟨_, _, _, rfl, gwt_7 76 rfl rfl⟩ ?_
  refine Wx_aload0 dX13_init_22 ?_
  refine Wx_sipush (v := 2001) dX13_init_23 (by decide) ?_
  refine Wx_newa 1 2001 dX13_init_26 rfl (by decide) ac_int rfl (by decide) (by decide) (by decide) (Nat.le_of_ble_eq_true rfl) ?_
  refine Wx_putRF 13 7 dX13_init_28 f_X13_18 rfl (Nat.le_of_ble_eq_true rfl) rfl rfl rfl rfl ⟨_, _, _, rfl, gwt_7 78 rfl rfl⟩ ?_
  refine Wx_aload0 dX13_init_31 ?_
  refine Wx_sipush (v := 2004) dX13_init_32 (by decide) ?_
  refine Wx_newa 1 2004 dX13_init_35 rfl (by decide) ac_int rfl (by decide) (by decide) (by decide) (Nat.le_of_ble_eq_true rfl) ?_
  refine Wx_putRF 13 8 dX13_init_37 f_X13_21 rfl (Nat.le_of_ble_eq_true rfl) rfl rfl rfl rfl ⟨_, _, _, rfl, gwt_7 80 rfl rfl⟩ ?_
  refine Wx_aload0 dX13_init_40 ?_
  refine Wx_sipush (v := 1032) dX13_init_41 (by decide) ?_
  refine Wx_newa 1 1032 dX13_init_44 rfl (by decide) ac_int rfl (by decide) (by decide) (by decide) (Nat.le_of_ble_eq_true rfl) ?_
  refine Wx_putRF 13 9 dX13_init_46 f_X13_24 rfl (Nat.le_of_ble_eq_true rfl) rfl rfl rfl rfl ⟨_, _, _, rfl, gwt_7 82 rfl rfl⟩ ?_
  refine Wx_aload0 dX13_init_49 ?_
  refine Wx_ldc dX13_init_50 k_X13_27 ?_
  refine Wx_newa 0 61440 dX13_init_52 rfl (by decide) ac_byte rfl (by decide) (by decide) (by decide) (Nat.le_of_ble_eq_true rfl) ?_
  refine Wx_putRF 13 10 dX13_init_54 f_X13_28 rfl (Nat.le_of_ble_eq_true rfl) rfl rfl rfl rfl ⟨_, _, _, rfl, gwt_7 84 rfl rfl⟩ ?_
  refine Wx_aload0 dX13_init_57 ?_
  refine Wx_sipush (v := 720) dX13_init_58 (by decide) ?_
  refine Wx_newa 1 720 dX13_init_61 rfl (by decide) ac_int rfl (by decide) (by decide) (by decide) (Nat.le_of_ble_eq_true rfl) ?_
  refine Wx_putRF 13 11 dX13_init_63 f_X13_32 rfl (Nat.le_of_ble_eq_true rfl) rfl rfl rfl rfl ⟨_, _, _, rfl, gwt_7 86 rfl rfl⟩ ?_
  exact Wx_return dX13_init_66 rfl rfl ⟨rfl, rfl⟩
def t_95 (σ : Hp) : Hp := (pR (nA (pR (nA (pR (nA (pR (nA (pR (nA (pR (nA (pR (nA σ 96) 95 5 (some 96)) 97) 95 6 (some 97)) 98) 95 7 (some 98)) 99) 95 8 (some 99)) 100) 95 9 (some 100)) 101) 95 10 (some 101)) 102) 95 11 (some 102))
set_option maxRecDepth 100000 in
theorem c_95 (σ : Hp) : Cx yX13_init cX13_init 1 none 1 96 103 [.ref 95] σ (fun o τ => o = .inl none ∧ τ = t_95 σ) := by
  refine Cx_of RX13 true (by decide) rfl (fun _ => rfl) (Nat.le_of_ble_eq_true rfl) rfl (Nat.le_of_ble_eq_true rfl) ?_
  refine Wx_aload0 dX13_init_0 ?_
  refine Wx_objInit ob_X13 ob_im ob_co dX13_init_1 (Nat.le_of_ble_eq_true rfl) (Nat.le_of_ble_eq_true rfl) ?_
  refine Wx_aload0 dX13_init_4 ?_
  refine Wx_sipush (v := 2001) dX13_init_5 (by decide) ?_
  refine Wx_newa 1 2001 dX13_init_8 rfl (by decide) ac_int rfl (by decide) (by decide) (by decide) (Nat.le_of_ble_eq_true rfl) ?_
  refine Wx_putRF 13 5 dX13_init_10 f_X13_9 rfl (Nat.le_of_ble_eq_true rfl) rfl rfl rfl rfl ⟨_, _, _, rfl, gwt_7 74 rfl rfl⟩ ?_
  refine Wx_aload0 dX13_init_13 ?_
  refine Wx_sipush (v := 2001) dX13_init_14 (by decide) ?_
  refine Wx_newa 1 2001 dX13_init_17 rfl (by decide) ac_int rfl (by decide) (by decide) (by decide) (Nat.le_of_ble_eq_true rfl) ?_
  refine Wx_putRF 13 6 dX13_init_19 f_X13_15 rfl (Nat.le_of_ble_eq_true rfl) rfl rfl rfl rfl ⟨_, _, _, rfl, gwt_7 76 rfl rfl⟩ ?_
  refine Wx_aload0 dX13_init_22 ?_
  refine Wx_sipush (v := 2001) dX13_init_23 (by decide) ?_
  refine Wx_newa 1 2001 dX13_init_26 rfl (by decide) ac_int rfl (by decide) (by decide) (by decide) (Nat.le_of_ble_eq_true rfl) ?_
  refine Wx_putRF 13 7 dX13_init_28 f_X13_18 rfl (Nat.le_of_ble_eq_true rfl) rfl rfl rfl rfl ⟨_, _, _, rfl, gwt_7 78 rfl rfl⟩ ?_
  refine Wx_aload0 dX13_init_31 ?_
  refine Wx_sipush (v := 2004) dX13_init_32 (by decide) ?_
  refine Wx_newa 1 2004 dX13_init_35 rfl (by decide) ac_int rfl (by decide) (by decide) (by decide) (Nat.le_of_ble_eq_true rfl) ?_
  refine Wx_putRF 13 8 dX13_init_37 f_X13_21 rfl (Nat.le_of_ble_eq_true rfl) rfl rfl rfl rfl ⟨_, _, _, rfl, gwt_7 80 rfl rfl⟩ ?_
  refine Wx_aload0 dX13_init_40 ?_
  refine Wx_sipush (v := 1032) dX13_init_41 (by decide) ?_
  refine Wx_newa 1 1032 dX13_init_44 rfl (by decide) ac_int rfl (by decide) (by decide) (by decide) (Nat.le_of_ble_eq_true rfl) ?_
  refine Wx_putRF 13 9 dX13_init_46 f_X13_24 rfl (Nat.le_of_ble_eq_true rfl) rfl rfl rfl rfl ⟨_, _, _, rfl, gwt_7 82 rfl rfl⟩ ?_
  refine Wx_aload0 dX13_init_49 ?_
  refine Wx_ldc dX13_init_50 k_X13_27 ?_
  refine Wx_newa 0 61440 dX13_init_52 rfl (by decide) ac_byte rfl (by decide) (by decide) (by decide) (Nat.le_of_ble_eq_true rfl) ?_
  refine Wx_putRF 13 10 dX13_init_54 f_X13_28 rfl (Nat.le_of_ble_eq_true rfl) rfl rfl rfl rfl ⟨_, _, _, rfl, gwt_7 84 rfl rfl⟩ ?_
  refine Wx_aload0 dX13_init_57 ?_
  refine Wx_sipush (v := 720) dX13_init_58 (by decide) ?_
  refine Wx_newa 1 720 dX13_init_61 rfl (by decide) ac_int rfl (by decide) (by decide) (by decide) (Nat.le_of_ble_eq_true rfl) ?_
  refine Wx_putRF 13 11 dX13_init_63 f_X13_32 rfl (Nat.le_of_ble_eq_true rfl) rfl rfl rfl rfl ⟨_, _, _, rfl, gwt_7 86 rfl rfl⟩ ?_
  exact Wx_return dX13_init_66 rfl rfl ⟨rfl, rfl⟩
theorem dX14_init_0 : decode cX14_init 0 = .ok (.aload_n 0, 1) := by decide +kernel
theorem dX14_init_1 : decode cX14_init 1 = .ok (.invokespecial 3, 3) := by decide +kernel
theorem dX14_init_4 : decode cX14_init 4 = .ok (.aload_n 0, 1) := by decide +kernel
theorem dX14_init_5 : decode cX14_init 5 = .ok (.new 9, 3) := by decide +kernel
theorem dX14_init_8 : decode cX14_init 8 = .ok (.dup, 1) := by decide +kernel
theorem dX14_init_9 : decode cX14_init 9 = .ok (.invokespecial 11, 3) := by decide +kernel
theorem dX14_init_12 : decode cX14_init 12 = .ok (.putfield 12, 3) := by decide +kernel
theorem dX14_init_15 : decode cX14_init 15 = .ok (.aload_n 0, 1) := by decide +kernel
theorem dX14_init_16 : decode cX14_init 16 = .ok (.sipush 4000, 3) := by decide +kernel
theorem dX14_init_19 : decode cX14_init 19 = .ok (.newarray .byte, 2) := by decide +kernel
theorem dX14_init_21 : decode cX14_init 21 = .ok (.putfield 16, 3) := by decide +kernel
theorem dX14_init_24 : decode cX14_init 24 = .ok (.aload_n 0, 1) := by decide +kernel
theorem dX14_init_25 : decode cX14_init 25 = .ok (.sipush 4000, 3) := by decide +kernel
theorem dX14_init_28 : decode cX14_init 28 = .ok (.newarray .byte, 2) := by decide +kernel
theorem dX14_init_30 : decode cX14_init 30 = .ok (.putfield 20, 3) := by decide +kernel
theorem dX14_init_33 : decode cX14_init 33 = .ok (.aload_n 0, 1) := by decide +kernel
theorem dX14_init_34 : decode cX14_init 34 = .ok (.iconst (-1), 1) := by decide +kernel
theorem dX14_init_35 : decode cX14_init 35 = .ok (.putfield 23, 3) := by decide +kernel
theorem dX14_init_38 : decode cX14_init 38 = .ok (.aload_n 0, 1) := by decide +kernel
theorem dX14_init_39 : decode cX14_init 39 = .ok (.sipush 12200, 3) := by decide +kernel
theorem dX14_init_42 : decode cX14_init 42 = .ok (.newarray .int, 2) := by decide +kernel
theorem dX14_init_44 : decode cX14_init 44 = .ok (.putfield 27, 3) := by decide +kernel
theorem dX14_init_47 : decode cX14_init 47 = .ok (.aload_n 0, 1) := by decide +kernel
theorem dX14_init_48 : decode cX14_init 48 = .ok (.sipush 12200, 3) := by decide +kernel
theorem dX14_init_51 : decode cX14_init 51 = .ok (.newarray .int, 2) := by decide +kernel
theorem dX14_init_53 : decode cX14_init 53 = .ok (.putfield 31, 3) := by decide +kernel
theorem dX14_init_56 : decode cX14_init 56 = .ok (.aload_n 0, 1) := by decide +kernel
theorem dX14_init_57 : decode cX14_init 57 = .ok (.sipush 12200, 3) := by decide +kernel
theorem dX14_init_60 : decode cX14_init 60 = .ok (.newarray .int, 2) := by decide +kernel
theorem dX14_init_62 : decode cX14_init 62 = .ok (.putfield 34, 3) := by decide +kernel
theorem dX14_init_65 : decode cX14_init 65 = .ok (.aload_n 0, 1) := by decide +kernel
theorem dX14_init_66 : decode cX14_init 66 = .ok (.sipush 12200, 3) := by decide +kernel
theorem dX14_init_69 : decode cX14_init 69 = .ok (.newarray .int, 2) := by decide +kernel
theorem dX14_init_71 : decode cX14_init 71 = .ok (.putfield 37, 3) := by decide +kernel
theorem dX14_init_74 : decode cX14_init 74 = .ok (.aload_n 0, 1) := by decide +kernel
theorem dX14_init_75 : decode cX14_init 75 = .ok (.sipush 12200, 3) := by decide +kernel
theorem dX14_init_78 : decode cX14_init 78 = .ok (.newarray .boolean, 2) := by decide +kernel
theorem dX14_init_80 : decode cX14_init 80 = .ok (.putfield 40, 3) := by decide +kernel
theorem dX14_init_83 : decode cX14_init 83 = .ok (.aload_n 0, 1) := by decide +kernel
theorem dX14_init_84 : decode cX14_init 84 = .ok (.sipush 12200, 3) := by decide +kernel
theorem dX14_init_87 : decode cX14_init 87 = .ok (.newarray .boolean, 2) := by decide +kernel
theorem dX14_init_89 : decode cX14_init 89 = .ok (.putfield 44, 3) := by decide +kernel
theorem dX14_init_92 : decode cX14_init 92 = .ok (.aload_n 0, 1) := by decide +kernel
theorem dX14_init_93 : decode cX14_init 93 = .ok (.sipush 12200, 3) := by decide +kernel
theorem dX14_init_96 : decode cX14_init 96 = .ok (.newarray .boolean, 2) := by decide +kernel
theorem dX14_init_98 : decode cX14_init 98 = .ok (.putfield 47, 3) := by decide +kernel
theorem dX14_init_101 : decode cX14_init 101 = .ok (.aload_n 0, 1) := by decide +kernel
theorem dX14_init_102 : decode cX14_init 102 = .ok (.sipush 12200, 3) := by decide +kernel
theorem dX14_init_105 : decode cX14_init 105 = .ok (.newarray .long, 2) := by decide +kernel
theorem dX14_init_107 : decode cX14_init 107 = .ok (.putfield 50, 3) := by decide +kernel
theorem dX14_init_110 : decode cX14_init 110 = .ok (.aload_n 0, 1) := by decide +kernel
theorem dX14_init_111 : decode cX14_init 111 = .ok (.ldc 54, 2) := by decide +kernel
theorem dX14_init_113 : decode cX14_init 113 = .ok (.newarray .int, 2) := by decide +kernel
theorem dX14_init_115 : decode cX14_init 115 = .ok (.putfield 55, 3) := by decide +kernel
theorem dX14_init_118 : decode cX14_init 118 = .ok (.aload_n 0, 1) := by decide +kernel
theorem dX14_init_119 : decode cX14_init 119 = .ok (.bipush 60, 2) := by decide +kernel
theorem dX14_init_121 : decode cX14_init 121 = .ok (.newarray .int, 2) := by decide +kernel
theorem dX14_init_123 : decode cX14_init 123 = .ok (.putfield 58, 3) := by decide +kernel
theorem dX14_init_126 : decode cX14_init 126 = .ok (.aload_n 0, 1) := by decide +kernel
theorem dX14_init_127 : decode cX14_init 127 = .ok (.bipush 60, 2) := by decide +kernel
theorem dX14_init_129 : decode cX14_init 129 = .ok (.newarray .int, 2) := by decide +kernel
theorem dX14_init_131 : decode cX14_init 131 = .ok (.putfield 61, 3) := by decide +kernel
theorem dX14_init_134 : decode cX14_init 134 = .ok (.aload_n 0, 1) := by decide +kernel
theorem dX14_init_135 : decode cX14_init 135 = .ok (.sipush 4000, 3) := by decide +kernel
theorem dX14_init_138 : decode cX14_init 138 = .ok (.newarray .int, 2) := by decide +kernel
theorem dX14_init_140 : decode cX14_init 140 = .ok (.putfield 64, 3) := by decide +kernel
theorem dX14_init_143 : decode cX14_init 143 = .ok (.aload_n 0, 1) := by decide +kernel
theorem dX14_init_144 : decode cX14_init 144 = .ok (.sipush 4000, 3) := by decide +kernel
theorem dX14_init_147 : decode cX14_init 147 = .ok (.newarray .int, 2) := by decide +kernel
theorem dX14_init_149 : decode cX14_init 149 = .ok (.putfield 67, 3) := by decide +kernel
theorem dX14_init_152 : decode cX14_init 152 = .ok (.aload_n 0, 1) := by decide +kernel
theorem dX14_init_153 : decode cX14_init 153 = .ok (.sipush 4000, 3) := by decide +kernel
theorem dX14_init_156 : decode cX14_init 156 = .ok (.newarray .int, 2) := by decide +kernel
theorem dX14_init_158 : decode cX14_init 158 = .ok (.putfield 70, 3) := by decide +kernel
theorem dX14_init_161 : decode cX14_init 161 = .ok (.aload_n 0, 1) := by decide +kernel
theorem dX14_init_162 : decode cX14_init 162 = .ok (.sipush 4000, 3) := by decide +kernel
theorem dX14_init_165 : decode cX14_init 165 = .ok (.newarray .int, 2) := by decide +kernel
theorem dX14_init_167 : decode cX14_init 167 = .ok (.putfield 73, 3) := by decide +kernel
theorem dX14_init_170 : decode cX14_init 170 = .ok (.aload_n 0, 1) := by decide +kernel
theorem dX14_init_171 : decode cX14_init 171 = .ok (.sipush 4000, 3) := by decide +kernel
theorem dX14_init_174 : decode cX14_init 174 = .ok (.newarray .int, 2) := by decide +kernel
theorem dX14_init_176 : decode cX14_init 176 = .ok (.putfield 76, 3) := by decide +kernel
theorem dX14_init_179 : decode cX14_init 179 = .ok (.aload_n 0, 1) := by decide +kernel
theorem dX14_init_180 : decode cX14_init 180 = .ok (.sipush 4000, 3) := by decide +kernel
theorem dX14_init_183 : decode cX14_init 183 = .ok (.newarray .int, 2) := by decide +kernel
theorem dX14_init_185 : decode cX14_init 185 = .ok (.putfield 79, 3) := by decide +kernel
theorem dX14_init_188 : decode cX14_init 188 = .ok (.aload_n 0, 1) := by decide +kernel
theorem dX14_init_189 : decode cX14_init 189 = .ok (.new 82, 3) := by decide +kernel
theorem dX14_init_192 : decode cX14_init 192 = .ok (.dup, 1) := by decide +kernel
theorem dX14_init_193 : decode cX14_init 193 = .ok (.invokespecial 84, 3) := by decide +kernel
theorem dX14_init_196 : decode cX14_init 196 = .ok (.putfield 85, 3) := by decide +kernel
theorem dX14_init_199 : decode cX14_init 199 = .ok (.aload_n 0, 1) := by decide +kernel
theorem dX14_init_200 : decode cX14_init 200 = .ok (.new 82, 3) := by decide +kernel
theorem dX14_init_203 : decode cX14_init 203 = .ok (.dup, 1) := by decide +kernel
theorem dX14_init_204 : decode cX14_init 204 = .ok (.invokespecial 84, 3) := by decide +kernel
theorem dX14_init_207 : decode cX14_init 207 = .ok (.putfield 89, 3) := by decide +kernel
theorem dX14_init_210 : decode cX14_init 210 = .ok (.aload_n 0, 1) := by decide +kernel
theorem dX14_init_211 : decode cX14_init 211 = .ok (.sipush 26000, 3) := by decide +kernel
theorem dX14_init_214 : decode cX14_init 214 = .ok (.newarray .int, 2) := by decide +kernel
theorem dX14_init_216 : decode cX14_init 216 = .ok (.putfield 92, 3) := by decide +kernel
theorem dX14_init_219 : decode cX14_init 219 = .ok (.aload_n 0, 1) := by decide +kernel
theorem dX14_init_220 : decode cX14_init 220 = .ok (.sipush 26000, 3) := by decide +kernel
theorem dX14_init_223 : decode cX14_init 223 = .ok (.newarray .int, 2) := by decide +kernel
theorem dX14_init_225 : decode cX14_init 225 = .ok (.putfield 95, 3) := by decide +kernel
theorem dX14_init_228 : decode cX14_init 228 = .ok (.aload_n 0, 1) := by decide +kernel
theorem dX14_init_229 : decode cX14_init 229 = .ok (.sipush 26000, 3) := by decide +kernel
theorem dX14_init_232 : decode cX14_init 232 = .ok (.newarray .int, 2) := by decide +kernel
theorem dX14_init_234 : decode cX14_init 234 = .ok (.putfield 98, 3) := by decide +kernel
theorem dX14_init_237 : decode cX14_init 237 = .ok (.aload_n 0, 1) := by decide +kernel
theorem dX14_init_238 : decode cX14_init 238 = .ok (.sipush 26000, 3) := by decide +kernel
theorem dX14_init_241 : decode cX14_init 241 = .ok (.newarray .int, 2) := by decide +kernel
theorem dX14_init_243 : decode cX14_init 243 = .ok (.putfield 101, 3) := by decide +kernel
theorem dX14_init_246 : decode cX14_init 246 = .ok (.aload_n 0, 1) := by decide +kernel
theorem dX14_init_247 : decode cX14_init 247 = .ok (.sipush 26000, 3) := by decide +kernel
theorem dX14_init_250 : decode cX14_init 250 = .ok (.newarray .boolean, 2) := by decide +kernel
theorem dX14_init_252 : decode cX14_init 252 = .ok (.putfield 104, 3) := by decide +kernel
theorem dX14_init_255 : decode cX14_init 255 = .ok (.aload_n 0, 1) := by decide +kernel
theorem dX14_init_256 : decode cX14_init 256 = .ok (.ldc 107, 2) := by decide +kernel
theorem dX14_init_258 : decode cX14_init 258 = .ok (.newarray .byte, 2) := by decide +kernel
theorem dX14_init_260 : decode cX14_init 260 = .ok (.putfield 108, 3) := by decide +kernel
theorem dX14_init_263 : decode cX14_init 263 = .ok (.aload_n 0, 1) := by decide +kernel
theorem dX14_init_264 : decode cX14_init 264 = .ok (.sipush 2000, 3) := by decide +kernel
theorem dX14_init_267 : decode cX14_init 267 = .ok (.newarray .int, 2) := by decide +kernel
theorem dX14_init_269 : decode cX14_init 269 = .ok (.putfield 111, 3) := by decide +kernel
theorem dX14_init_272 : decode cX14_init 272 = .ok (.aload_n 0, 1) := by decide +kernel
theorem dX14_init_273 : decode cX14_init 273 = .ok (.sipush 2000, 3) := by decide +kernel
theorem dX14_init_276 : decode cX14_init 276 = .ok (.newarray .int, 2) := by decide +kernel
theorem dX14_init_278 : decode cX14_init 278 = .ok (.putfield 114, 3) := by decide +kernel
theorem dX14_init_281 : decode cX14_init 281 = .ok (.aload_n 0, 1) := by decide +kernel
theorem dX14_init_282 : decode cX14_init 282 = .ok (.ldc 117, 2) := by decide +kernel
theorem dX14_init_284 : decode cX14_init 284 = .ok (.newarray .byte, 2) := by decide +kernel
theorem dX14_init_286 : decode cX14_init 286 = .ok (.putfield 118, 3) := by decide +kernel
theorem dX14_init_289 : decode cX14_init 289 = .ok (.aload_n 0, 1) := by decide +kernel
theorem dX14_init_290 : decode cX14_init 290 = .ok (.ldc 121, 2) := by decide +kernel
theorem dX14_init_292 : decode cX14_init 292 = .ok (.newarray .byte, 2) := by decide +kernel
theorem dX14_init_294 : decode cX14_init 294 = .ok (.putfield 122, 3) := by decide +kernel
theorem dX14_init_297 : decode cX14_init 297 = .ok (.aload_n 0, 1) := by decide +kernel
theorem dX14_init_298 : decode cX14_init 298 = .ok (.bipush 8, 2) := by decide +kernel
theorem dX14_init_300 : decode cX14_init 300 = .ok (.newarray .int, 2) := by decide +kernel
theorem dX14_init_302 : decode cX14_init 302 = .ok (.putfield 125, 3) := by decide +kernel
theorem dX14_init_305 : decode cX14_init 305 = .ok (.aload_n 0, 1) := by decide +kernel
theorem dX14_init_306 : decode cX14_init 306 = .ok (.ldc 121, 2) := by decide +kernel
theorem dX14_init_308 : decode cX14_init 308 = .ok (.putfield 128, 3) := by decide +kernel
theorem dX14_init_311 : decode cX14_init 311 = .ok (.aload_n 0, 1) := by decide +kernel
theorem dX14_init_312 : decode cX14_init 312 = .ok (.ldc 117, 2) := by decide +kernel
theorem dX14_init_314 : decode cX14_init 314 = .ok (.newarray .boolean, 2) := by decide +kernel
theorem dX14_init_316 : decode cX14_init 316 = .ok (.putfield 131, 3) := by decide +kernel
theorem dX14_init_319 : decode cX14_init 319 = .ok (.aload_n 0, 1) := by decide +kernel
theorem dX14_init_320 : decode cX14_init 320 = .ok (.ldc 121, 2) := by decide +kernel
theorem dX14_init_322 : decode cX14_init 322 = .ok (.newarray .boolean, 2) := by decide +kernel
theorem dX14_init_324 : decode cX14_init 324 = .ok (.putfield 134, 3) := by decide +kernel
theorem dX14_init_327 : decode cX14_init 327 = .ok (.aload_n 0, 1) := by decide +kernel
theorem dX14_init_328 : decode cX14_init 328 = .ok (.bipush 8, 2) := by decide +kernel
theorem dX14_init_330 : decode cX14_init 330 = .ok (.newarray .int, 2) := by decide +kernel
theorem dX14_init_332 : decode cX14_init 332 = .ok (.putfield 137, 3) := by decide +kernel
theorem dX14_init_335 : decode cX14_init 335 = .ok (.aload_n 0, 1) := by decide +kernel
theorem dX14_init_336 : decode cX14_init 336 = .ok (.sipush 1002, 3) := by decide +kernel
theorem dX14_init_339 : decode cX14_init 339 = .ok (.newarray .int, 2) := by decide +kernel
theorem dX14_init_341 : decode cX14_init 341 = .ok (.putfield 140, 3) := by decide +kernel
theorem dX14_init_344 : decode cX14_init 344 = .ok (.aload_n 0, 1) := by decide +kernel
theorem dX14_init_345 : decode cX14_init 345 = .ok (.sipush 1002, 3) := by decide +kernel
theorem dX14_init_348 : decode cX14_init 348 = .ok (.newarray .int, 2) := by decide +kernel
theorem dX14_init_350 : decode cX14_init 350 = .ok (.putfield 143, 3) := by decide +kernel
theorem dX14_init_353 : decode cX14_init 353 = .ok (.aload_n 0, 1) := by decide +kernel
theorem dX14_init_354 : decode cX14_init 354 = .ok (.sipush 1002, 3) := by decide +kernel
theorem dX14_init_357 : decode cX14_init 357 = .ok (.newarray .int, 2) := by decide +kernel
theorem dX14_init_359 : decode cX14_init 359 = .ok (.putfield 146, 3) := by decide +kernel
theorem dX14_init_362 : decode cX14_init 362 = .ok (.aload_n 0, 1) := by decide +kernel
theorem dX14_init_363 : decode cX14_init 363 = .ok (.sipush 1002, 3) := by decide +kernel
theorem dX14_init_366 : decode cX14_init 366 = .ok (.newarray .int, 2) := by decide +kernel
theorem dX14_init_368 : decode cX14_init 368 = .ok (.putfield 149, 3) := by decide +kernel
theorem dX14_init_371 : decode cX14_init 371 = .ok (.aload_n 0, 1) := by decide +kernel
theorem dX14_init_372 : decode cX14_init 372 = .ok (.sipush 1002, 3) := by decide +kernel
theorem dX14_init_375 : decode cX14_init 375 = .ok (.newarray .int, 2) := by decide +kernel
theorem dX14_init_377 : decode cX14_init 377 = .ok (.putfield 152, 3) := by decide +kernel
theorem dX14_init_380 : decode cX14_init 380 = .ok (.aload_n 0, 1) := by decide +kernel
theorem dX14_init_381 : decode cX14_init 381 = .ok (.iconst (-1), 1) := by decide +kernel
theorem dX14_init_382 : decode cX14_init 382 = .ok (.putfield 155, 3) := by decide +kernel
theorem dX14_init_385 : decode cX14_init 385 = .ok (.return_, 1) := by decide +kernel
def t_66 (σ : Hp) : Hp := (pI (pR (nA (pR (nA (pR (nA (pR (nA (pR (nA (pR (nA (pR (nA (pR (nA (pI (pR (nA (pR (nA (pR (nA (pR (nA (pR (nA (pR (nA (pR (nA (pR (nA (pR (nA (pR (nA (pR (nA (pR (t_95 (nO (pR (t_87 (nO (pR (nA (pR (nA (pR (nA (pR (nA (pR (nA (pR (nA (pR (nA (pR (nA (pR (nA (pR (nA (pR (nA (pR (nA (pR (nA (pR (nA (pR (nA (pR (nA (pR (nA (pI (pR (nA (pR (nA (pR (t_67 (nO σ 67)) 66 0 (some 67)) 68) 66 1 (some 68)) 69) 66 3 (some 69)) 66 8 (-1)) 70) 66 11 (some 70)) 71) 66 12 (some 71)) 72) 66 13 (some 72)) 73) 66 14 (some 73)) 74) 66 15 (some 74)) 75) 66 16 (some 75)) 76) 66 17 (some 76)) 77) 66 18 (some 77)) 78) 66 19 (some 78)) 79) 66 21 (some 79)) 80) 66 22 (some 80)) 81) 66 26 (some 81)) 82) 66 27 (some 82)) 83) 66 28 (some 83)) 84) 66 30 (some 84)) 85) 66 31 (some 85)) 86) 66 32 (some 86)) 87)) 66 33 (some 87)) 95)) 66 34 (some 95)) 103) 66 38 (some 103)) 104) 66 39 (some 104)) 105) 66 40 (some 105)) 106) 66 41 (some 106)) 107) 66 42 (some 107)) 108) 66 45 (some 108)) 109) 66 47 (some 109)) 110) 66 48 (some 110)) 111) 66 49 (some 111)) 112) 66 51 (some 112)) 113) 66 52 (some 113)) 66 54 65536) 114) 66 73 (some 114)) 115) 66 74 (some 115)) 116) 66 75 (some 116)) 117) 66 81 (some 117)) 118) 66 82 (some 118)) 119) 66 83 (some 119)) 120) 66 84 (some 120)) 121) 66 85 (some 121)) 66 90 (-1))
set_option maxRecDepth 100000 in
theorem c_66 (σ : Hp) : Cx yX14_init cX14_init 1 none 5 67 122 [.ref 66] σ (fun o τ => o = .inl none ∧ τ = t_66 σ) := by
  refine Cx_of RX14 true (by decide) rfl (fun _ => rfl) (Nat.le_of_ble_eq_true rfl) rfl (Nat.le_of_ble_eq_true rfl) ?_
  refine Wx_aload0 dX14_init_0 ?_
  refine Wx_objInit ob_X14 ob_im ob_co dX14_init_1 (Nat.le_of_ble_eq_true rfl) (Nat.le_of_ble_eq_true rfl) ?_
  refine Wx_aload0 dX14_init_4 ?_
  refine Wx_new 12 dX14_init_5 rfl cl_X14_9 in_X12 it_X12 rfl (Nat.le_of_ble_eq_true rfl) (by decide) ?_
  refine Wx_dup dX14_init_8 rfl ?_
  refine Wx_ctor 67 [] 0 m_X12_init l_X14_11 im_X12_init rfl dX14_init_9 (c_67 _ (fun _ => rfl)) (Nat.le_of_ble_eq_true rfl) (Nat.le_of_ble_eq_true rfl) (Nat.le_of_ble_eq_true rfl) rfl (Nat.le_of_ble_eq_true rfl) rfl ?_
  refine Wx_putRF 14 0 dX14_init_12 f_X14_12 rfl (Nat.le_of_ble_eq_true rfl) rfl rfl rfl rfl ⟨_, _, _, rfl, gwt_7 117 rfl rfl⟩ ?_
  refine Wx_aload0 dX14_init_15 ?_
  refine Wx_sipush (v := 4000) dX14_init_16 (by decide) ?_
  refine Wx_newa 0 4000 dX14_init_19 rfl (by decide) ac_byte rfl (by decide) (by decide) (by decide) (Nat.le_of_ble_eq_true rfl) ?_
  refine Wx_putRF 14 1 dX14_init_21 f_X14_16 rfl (Nat.le_of_ble_eq_true rfl) rfl rfl rfl rfl ⟨_, _, _, rfl, gwt_7 118 rfl rfl⟩ ?_
  refine Wx_aload0 dX14_init_24 ?_
  refine Wx_sipush (v := 4000) dX14_init_25 (by decide) ?_
  refine Wx_newa 0 4000 dX14_init_28 rfl (by decide) ac_byte rfl (by decide) (by decide) (by decide) (Nat.le_of_ble_eq_true rfl) ?_
  refine Wx_putRF 14 3 dX14_init_30 f_X14_20 rfl (Nat.le_of_ble_eq_true rfl) rfl rfl rfl rfl ⟨_, _, _, rfl, gwt_7 120 rfl rfl⟩ ?_
  refine Wx_aload0 dX14_init_33 ?_
  refine Wx_iconst (v := (-1)) dX14_init_34 (by decide) ?_
  refine Wx_putI 14 8 dX14_init_35 f_X14_23 rfl (Nat.le_of_ble_eq_true rfl) rfl rfl ?_
  refine Wx_aload0 dX14_init_38 ?_
  refine Wx_sipush (v := 12200) dX14_init_39 (by decide) ?_
  refine Wx_newa 1 12200 dX14_init_42 rfl (by decide) ac_int rfl (by decide) (by decide) (by decide) (Nat.le_of_ble_eq_true rfl) ?_
  refine Wx_putRF 14 11 dX14_init_44 f_X14_27 rfl (Nat.le_of_ble_eq_true rfl) rfl rfl rfl rfl ⟨_, _, _, rfl, gwt_7 128 rfl rfl⟩ ?_
  refine Wx_aload0 dX14_init_47 ?_
  refine Wx_sipush (v := 12200) dX14_init_48 (by decide) ?_
  refine Wx_newa 1 12200 dX14_init_51 rfl (by decide) ac_int rfl (by decide) (by decide) (by decide) (Nat.le_of_ble_eq_true rfl) ?_
  refine Wx_putRF 14 12 dX14_init_53 f_X14_31 rfl (Nat.le_of_ble_eq_true rfl) rfl rfl rfl rfl ⟨_, _, _, rfl, gwt_7 129 rfl rfl⟩ ?_
  refine Wx_aload0 dX14_init_56 ?_
  refine Wx_sipush (v := 12200) dX14_init_57 (by decide) ?_
  refine Wx_newa 1 12200 dX14_init_60 rfl (by decide) ac_int rfl (by decide) (by decide) (by decide) (Nat.le_of_ble_eq_true rfl) ?_
  refine Wx_putRF 14 13 dX14_init_62 f_X14_34 rfl (Nat.le_of_ble_eq_true rfl) rfl rfl rfl rfl ⟨_, _, _, rfl, gwt_7 130 rfl rfl⟩ ?_
  refine Wx_aload0 dX14_init_65 ?_
  refine Wx_sipush (v := 12200) dX14_init_66 (by decide) ?_
  refine Wx_newa 1 12200 dX14_init_69 rfl (by decide) ac_int rfl (by decide) (by decide) (by decide) (Nat.le_of_ble_eq_true rfl) ?_
  refine Wx_putRF 14 14 dX14_init_71 f_X14_37 rfl (Nat.le_of_ble_eq_true rfl) rfl rfl rfl rfl ⟨_, _, _, rfl, gwt_7 131 rfl rfl⟩ ?_
  refine Wx_aload0 dX14_init_74 ?_
  refine Wx_sipush (v := 12200) dX14_init_75 (by decide) ?_
  refine Wx_newa 3 12200 dX14_init_78 rfl (by decide) ac_boolean rfl (by decide) (by decide) (by decide) (Nat.le_of_ble_eq_true rfl) ?_
  refine Wx_putRF 14 15 dX14_init_80 f_X14_40 rfl (Nat.le_of_ble_eq_true rfl) rfl rfl rfl rfl ⟨_, _, _, rfl, gwt_7 132 rfl rfl⟩ ?_
  refine Wx_aload0 dX14_init_83 ?_
  refine Wx_sipush (v := 12200) dX14_init_84 (by decide) ?_
  refine Wx_newa 3 12200 dX14_init_87 rfl (by decide) ac_boolean rfl (by decide) (by decide) (by decide) (Nat.le_of_ble_eq_true rfl) ?_
  refine Wx_putRF 14 16 dX14_init_89 f_X14_44 rfl (Nat.le_of_ble_eq_true rfl) rfl rfl rfl rfl ⟨_, _, _, rfl, gwt_7 133 rfl rfl⟩ ?_
  refine Wx_aload0 dX14_init_92 ?_
  refine Wx_sipush (v := 12200) dX14_init_93 (by decide) ?_
  refine Wx_newa 3 12200 dX14_init_96 rfl (by decide) ac_boolean rfl (by decide) (by decide) (by decide) (Nat.le_of_ble_eq_true rfl) ?_
  refine Wx_putRF 14 17 dX14_init_98 f_X14_47 rfl (Nat.le_of_ble_eq_true rfl) rfl rfl rfl rfl ⟨_, _, _, rfl, gwt_7 134 rfl rfl⟩ ?_
  refine Wx_aload0 dX14_init_101 ?_
  refine Wx_sipush (v := 12200) dX14_init_102 (by decide) ?_
  refine Wx_newa 2 12200 dX14_init_105 rfl (by decide) ac_long rfl (by decide) (by decide) (by decide) (Nat.le_of_ble_eq_true rfl) ?_
  refine Wx_putRF 14 18 dX14_init_107 f_X14_50 rfl (Nat.le_of_ble_eq_true rfl) rfl rfl rfl rfl ⟨_, _, _, rfl, gwt_7 135 rfl rfl⟩ ?_
  refine Wx_aload0 dX14_init_110 ?_
  refine Wx_ldc dX14_init_111 k_X14_54 ?_
  refine Wx_newa 1 97600 dX14_init_113 rfl (by decide) ac_int rfl (by decide) (by decide) (by decide) (Nat.le_of_ble_eq_true rfl) ?_
  refine Wx_putRF 14 19 dX14_init_115 f_X14_55 rfl (Nat.le_of_ble_eq_true rfl) rfl rfl rfl rfl ⟨_, _, _, rfl, gwt_7 136 rfl rfl⟩ ?_
  refine Wx_aload0 dX14_init_118 ?_
  refine Wx_bipush (v := 60) dX14_init_119 (by decide) ?_
  refine Wx_newa 1 60 dX14_init_121 rfl (by decide) ac_int rfl (by decide) (by decide) (by decide) (Nat.le_of_ble_eq_true rfl) ?_
  refine Wx_putRF 14 21 dX14_init_123 f_X14_58 rfl (Nat.le_of_ble_eq_true rfl) rfl rfl rfl rfl ⟨_, _, _, rfl, gwt_7 138 rfl rfl⟩ ?_
  refine Wx_aload0 dX14_init_126 ?_
  refine Wx_bipush (v := 60) dX14_init_127 (by decide) ?_
  refine Wx_newa 1 60 dX14_init_129 rfl (by decide) ac_int rfl (by decide) (by decide) (by decide) (Nat.le_of_ble_eq_true rfl) ?_
  refine Wx_putRF 14 22 dX14_init_131 f_X14_61 rfl (Nat.le_of_ble_eq_true rfl) rfl rfl rfl rfl ⟨_, _, _, rfl, gwt_7 139 rfl rfl⟩ ?_
  refine Wx_aload0 dX14_init_134 ?_
  refine Wx_sipush (v := 4000) dX14_init_135 (by decide) ?_
  refine Wx_newa 1 4000 dX14_init_138 rfl (by decide) ac_int rfl (by decide) (by decide) (by decide) (Nat.le_of_ble_eq_true rfl) ?_
  refine Wx_putRF 14 26 dX14_init_140 f_X14_64 rfl (Nat.le_of_ble_eq_true rfl) rfl rfl rfl rfl ⟨_, _, _, rfl, gwt_7 143 rfl rfl⟩ ?_
  refine Wx_aload0 dX14_init_143 ?_
  refine Wx_sipush (v := 4000) dX14_init_144 (by decide) ?_
  refine Wx_newa 1 4000 dX14_init_147 rfl (by decide) ac_int rfl (by decide) (by decide) (by decide) (Nat.le_of_ble_eq_true rfl) ?_
  refine Wx_putRF 14 27 dX14_init_149 f_X14_67 rfl (Nat.le_of_ble_eq_true rfl) rfl rfl rfl rfl ⟨_, _, _, rfl, gwt_7 144 rfl rfl⟩ ?_
  refine Wx_aload0 dX14_init_152 ?_
  refine Wx_sipush (v := 4000) dX14_init_153 (by decide) ?_
  refine Wx_newa 1 4000 dX14_init_156 rfl (by decide) ac_int rfl (by decide) (by decide) (by decide) (Nat.le_of_ble_eq_true rfl) ?_
  refine Wx_putRF 14 28 dX14_init_158 f_X14_70 rfl (Nat.le_of_ble_eq_true rfl) rfl rfl rfl rfl ⟨_, _, _, rfl, gwt_7 145 rfl rfl⟩ ?_
  refine Wx_aload0 dX14_init_161 ?_
  refine Wx_sipush (v := 4000) dX14_init_162 (by decide) ?_
  refine Wx_newa 1 4000 dX14_init_165 rfl (by decide) ac_int rfl (by decide) (by decide) (by decide) (Nat.le_of_ble_eq_true rfl) ?_
  refine Wx_putRF 14 30 dX14_init_167 f_X14_73 rfl (Nat.le_of_ble_eq_true rfl) rfl rfl rfl rfl ⟨_, _, _, rfl, gwt_7 147 rfl rfl⟩ ?_
  refine Wx_aload0 dX14_init_170 ?_
  refine Wx_sipush (v := 4000) dX14_init_171 (by decide) ?_
  refine Wx_newa 1 4000 dX14_init_174 rfl (by decide) ac_int rfl (by decide) (by decide) (by decide) (Nat.le_of_ble_eq_true rfl) ?_
  refine Wx_putRF 14 31 dX14_init_176 f_X14_76 rfl (Nat.le_of_ble_eq_true rfl) rfl rfl rfl rfl ⟨_, _, _, rfl, gwt_7 148 rfl rfl⟩ ?_
  refine Wx_aload0 dX14_init_179 ?_
  refine Wx_sipush (v := 4000) dX14_init_180 (by decide) ?_
  refine Wx_newa 1 4000 dX14_init_183 rfl (by decide) ac_int rfl (by decide) (by decide) (by decide) (Nat.le_of_ble_eq_true rfl) ?_
  refine Wx_putRF 14 32 dX14_init_185 f_X14_79 rfl (Nat.le_of_ble_eq_true rfl) rfl rfl rfl rfl ⟨_, _, _, rfl, gwt_7 149 rfl rfl⟩ ?_
  refine Wx_aload0 dX14_init_188 ?_
  refine Wx_new 13 dX14_init_189 rfl cl_X14_82 in_X13 it_X13 rfl (Nat.le_of_ble_eq_true rfl) (by decide) ?_
  refine Wx_dup dX14_init_192 rfl ?_
  refine Wx_ctor 87 [] 0 m_X13_init l_X14_84 im_X13_init rfl dX14_init_193 (c_87 _) (Nat.le_of_ble_eq_true rfl) (Nat.le_of_ble_eq_true rfl) (Nat.le_of_ble_eq_true rfl) rfl (Nat.le_of_ble_eq_true rfl) rfl ?_
  refine Wx_putR 14 33 dX14_init_196 f_X14_85 rfl (Nat.le_of_ble_eq_true rfl) rfl rfl ?_
  refine Wx_aload0 dX14_init_199 ?_
  refine Wx_new 13 dX14_init_200 rfl cl_X14_82 in_X13 it_X13 rfl (Nat.le_of_ble_eq_true rfl) (by decide) ?_
  refine Wx_dup dX14_init_203 rfl ?_
  refine Wx_ctor 95 [] 0 m_X13_init l_X14_84 im_X13_init rfl dX14_init_204 (c_95 _) (Nat.le_of_ble_eq_true rfl) (Nat.le_of_ble_eq_true rfl) (Nat.le_of_ble_eq_true rfl) rfl (Nat.le_of_ble_eq_true rfl) rfl ?_
  refine Wx_putR 14 34 dX14_init_207 f_X14_89 rfl (Nat.le_of_ble_eq_true rfl) rfl rfl ?_
  refine Wx_aload0 dX14_init_210 ?_
  refine Wx_sipush (v := 26000) dX14_init_211 (by decide) ?_
  refine Wx_newa 1 26000 dX14_init_214 rfl (by decide) ac_int rfl (by decide) (by decide) (by decide) (Nat.le_of_ble_eq_true rfl) ?_
  refine Wx_putRF 14 38 dX14_init_216 f_X14_92 rfl (Nat.le_of_ble_eq_true rfl) rfl rfl rfl rfl ⟨_, _, _, rfl, gwt_7 155 rfl rfl⟩ ?_
  refine Wx_aload0 dX14_init_219 ?_
  refine Wx_sipush (v := 26000) dX14_init_220 (by decide) ?_
  refine Wx_newa 1 26000 dX14_init_223 rfl (by decide) ac_int rfl (by decide) (by decide) (by decide) (Nat.le_of_ble_eq_true rfl) ?_
  refine Wx_putRF 14 39 dX14_init_225 f_X14_95 rfl (Nat.le_of_ble_eq_true rfl) rfl rfl rfl rfl ⟨_, _, _, rfl, gwt_7 156 rfl rfl⟩ ?_
  refine Wx_aload0 dX14_init_228 ?_
  refine Wx_sipush (v := 26000) dX14_init_229 (by decide) ?_
  refine Wx_newa 1 26000 dX14_init_232 rfl (by decide) ac_int rfl (by decide) (by decide) (by decide) (Nat.le_of_ble_eq_true rfl) ?_
  refine Wx_putRF 14 40 dX14_init_234 f_X14_98 rfl (Nat.le_of_ble_eq_true rfl) rfl rfl rfl rfl ⟨_, _, _, rfl, gwt_7 157 rfl rfl⟩ ?_
  refine Wx_aload0 dX14_init_237 ?_
  refine Wx_sipush (v := 26000) dX14_init_238 (by decide) ?_
  refine Wx_newa 1 26000 dX14_init_241 rfl (by decide) ac_int rfl (by decide) (by decide) (by decide) (Nat.le_of_ble_eq_true rfl) ?_
  refine Wx_putRF 14 41 dX14_init_243 f_X14_101 rfl (Nat.le_of_ble_eq_true rfl) rfl rfl rfl rfl ⟨_, _, _, rfl, gwt_7 158 rfl rfl⟩ ?_
  refine Wx_aload0 dX14_init_246 ?_
  refine Wx_sipush (v := 26000) dX14_init_247 (by decide) ?_
  refine Wx_newa 3 26000 dX14_init_250 rfl (by decide) ac_boolean rfl (by decide) (by decide) (by decide) (Nat.le_of_ble_eq_true rfl) ?_
  refine Wx_putRF 14 42 dX14_init_252 f_X14_104 rfl (Nat.le_of_ble_eq_true rfl) rfl rfl rfl rfl ⟨_, _, _, rfl, gwt_7 159 rfl rfl⟩ ?_
  refine Wx_aload0 dX14_init_255 ?_
  refine Wx_ldc dX14_init_256 k_X14_107 ?_
  refine Wx_newa 0 61840 dX14_init_258 rfl (by decide) ac_byte rfl (by decide) (by decide) (by decide) (Nat.le_of_ble_eq_true rfl) ?_
  refine Wx_putRF 14 45 dX14_init_260 f_X14_108 rfl (Nat.le_of_ble_eq_true rfl) rfl rfl rfl rfl ⟨_, _, _, rfl, gwt_7 162 rfl rfl⟩ ?_
  refine Wx_aload0 dX14_init_263 ?_
  refine Wx_sipush (v := 2000) dX14_init_264 (by decide) ?_
  refine Wx_newa 1 2000 dX14_init_267 rfl (by decide) ac_int rfl (by decide) (by decide) (by decide) (Nat.le_of_ble_eq_true rfl) ?_
  refine Wx_putRF 14 47 dX14_init_269 f_X14_111 rfl (Nat.le_of_ble_eq_true rfl) rfl rfl rfl rfl ⟨_, _, _, rfl, gwt_7 164 rfl rfl⟩ ?_
  refine Wx_aload0 dX14_init_272 ?_
  refine Wx_sipush (v := 2000) dX14_init_273 (by decide) ?_
  refine Wx_newa 1 2000 dX14_init_276 rfl (by decide) ac_int rfl (by decide) (by decide) (by decide) (Nat.le_of_ble_eq_true rfl) ?_
  refine Wx_putRF 14 48 dX14_init_278 f_X14_114 rfl (Nat.le_of_ble_eq_true rfl) rfl rfl rfl rfl ⟨_, _, _, rfl, gwt_7 165 rfl rfl⟩ ?_
  refine Wx_aload0 dX14_init_281 ?_
  refine Wx_ldc dX14_init_282 k_X14_117 ?_
  refine Wx_newa 0 61440 dX14_init_284 rfl (by decide) ac_byte rfl (by decide) (by decide) (by decide) (Nat.le_of_ble_eq_true rfl) ?_
  refine Wx_putRF 14 49 dX14_init_286 f_X14_118 rfl (Nat.le_of_ble_eq_true rfl) rfl rfl rfl rfl ⟨_, _, _, rfl, gwt_7 166 rfl rfl⟩ ?_
  refine Wx_aload0 dX14_init_289 ?_
  refine Wx_ldc dX14_init_290 k_X14_121 ?_
  refine Wx_newa 0 65536 dX14_init_292 rfl (by decide) ac_byte rfl (by decide) (by decide) (by decide) (Nat.le_of_ble_eq_true rfl) ?_
  refine Wx_putRF 14 51 dX14_init_294 f_X14_122 rfl (Nat.le_of_ble_eq_true rfl) rfl rfl rfl rfl ⟨_, _, _, rfl, gwt_7 168 rfl rfl⟩ ?_
  refine Wx_aload0 dX14_init_297 ?_
  refine Wx_bipush (v := 8) dX14_init_298 (by decide) ?_
  refine Wx_newa 1 8 dX14_init_300 rfl (by decide) ac_int rfl (by decide) (by decide) (by decide) (Nat.le_of_ble_eq_true rfl) ?_
  refine Wx_putRF 14 52 dX14_init_302 f_X14_125 rfl (Nat.le_of_ble_eq_true rfl) rfl rfl rfl rfl ⟨_, _, _, rfl, gwt_7 169 rfl rfl⟩ ?_
  refine Wx_aload0 dX14_init_305 ?_
  refine Wx_ldc dX14_init_306 k_X14_121 ?_
  refine Wx_putI 14 54 dX14_init_308 f_X14_128 rfl (Nat.le_of_ble_eq_true rfl) rfl rfl ?_
  refine Wx_aload0 dX14_init_311 ?_
  refine Wx_ldc dX14_init_312 k_X14_117 ?_
  refine Wx_newa 3 61440 dX14_init_314 rfl (by decide) ac_boolean rfl (by decide) (by decide) (by decide) (Nat.le_of_ble_eq_true rfl) ?_
  refine Wx_putRF 14 73 dX14_init_316 f_X14_131 rfl (Nat.le_of_ble_eq_true rfl) rfl rfl rfl rfl ⟨_, _, _, rfl, gwt_7 190 rfl rfl⟩ ?_
  refine Wx_aload0 dX14_init_319 ?_
  refine Wx_ldc dX14_init_320 k_X14_121 ?_
  refine Wx_newa 3 65536 dX14_init_322 rfl (by decide) ac_boolean rfl (by decide) (by decide) (by decide) (Nat.le_of_ble_eq_true rfl) ?_
  refine Wx_putRF 14 74 dX14_init_324 f_X14_134 rfl (Nat.le_of_ble_eq_true rfl) rfl rfl rfl rfl ⟨_, _, _, rfl, gwt_7 191 rfl rfl⟩ ?_
  refine Wx_aload0 dX14_init_327 ?_
  refine Wx_bipush (v := 8) dX14_init_328 (by decide) ?_
  refine Wx_newa 1 8 dX14_init_330 rfl (by decide) ac_int rfl (by decide) (by decide) (by decide) (Nat.le_of_ble_eq_true rfl) ?_
  refine Wx_putRF 14 75 dX14_init_332 f_X14_137 rfl (Nat.le_of_ble_eq_true rfl) rfl rfl rfl rfl ⟨_, _, _, rfl, gwt_7 192 rfl rfl⟩ ?_
  refine Wx_aload0 dX14_init_335 ?_
  refine Wx_sipush (v := 1002) dX14_init_336 (by decide) ?_
  refine Wx_newa 1 1002 dX14_init_339 rfl (by decide) ac_int rfl (by decide) (by decide) (by decide) (Nat.le_of_ble_eq_true rfl) ?_
  refine Wx_putRF 14 81 dX14_init_341 f_X14_140 rfl (Nat.le_of_ble_eq_true rfl) rfl rfl rfl rfl ⟨_, _, _, rfl, gwt_7 198 rfl rfl⟩ ?_
  refine Wx_aload0 dX14_init_344 ?_
  refine Wx_sipush (v := 1002) dX14_init_345 (by decide) ?_
  refine Wx_newa 1 1002 dX14_init_348 rfl (by decide) ac_int rfl (by decide) (by decide) (by decide) (Nat.le_of_ble_eq_true rfl) ?_
  refine Wx_putRF 14 82 dX14_init_350 f_X14_143 rfl (Nat.le_of_ble_eq_true rfl) rfl rfl rfl rfl ⟨_, _, _, rfl, gwt_7 199 rfl rfl⟩ ?_
  refine Wx_aload0 dX14_init_353 ?_
  refine Wx_sipush (v := 1002) dX14_init_354 (by decide) ?_
  refine Wx_newa 1 1002 dX14_init_357 rfl (by decide) ac_int rfl (by decide) (by decide) (by decide) (Nat.le_of_ble_eq_true rfl) ?_
  refine Wx_putRF 14 83 dX14_init_359 f_X14_146 rfl (Nat.le_of_ble_eq_true rfl) rfl rfl rfl rfl ⟨_, _, _, rfl, gwt_7 200 rfl rfl⟩ ?_
  refine Wx_aload0 dX14_init_362 ?_
  refine Wx_sipush (v := 1002) dX14_init_363 (by decide) ?_
  refine Wx_newa 1 1002 dX14_init_366 rfl (by decide) ac_int rfl (by decide) (by decide) (by decide) (Nat.le_of_ble_eq_true rfl) ?_
  refine Wx_putRF 14 84 dX14_init_368 f_X14_149 rfl (Nat.le_of_ble_eq_true rfl) rfl rfl rfl rfl ⟨_, _, _, rfl, gwt_7 201 rfl rfl⟩ ?_
  refine Wx_aload0 dX14_init_371 ?_
  refine Wx_sipush (v := 1002) dX14_init_372 (by decide) ?_
  refine Wx_newa 1 1002 dX14_init_375 rfl (by decide) ac_int rfl (by decide) (by decide) (by decide) (Nat.le_of_ble_eq_true rfl) ?_
  refine Wx_putRF 14 85 dX14_init_377 f_X14_152 rfl (Nat.le_of_ble_eq_true rfl) rfl rfl rfl rfl ⟨_, _, _, rfl, gwt_7 202 rfl rfl⟩ ?_
  refine Wx_aload0 dX14_init_380 ?_
  refine Wx_iconst (v := (-1)) dX14_init_381 (by decide) ?_
  refine Wx_putI 14 90 dX14_init_382 f_X14_155 rfl (Nat.le_of_ble_eq_true rfl) rfl rfl ?_
  exact Wx_return dX14_init_385 rfl rfl ⟨rfl, rfl⟩

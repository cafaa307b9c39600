theorem dX10_init_0 : decode cX10_init 0 = .ok (.aload_n 0, 1) := by decide +kernel
theorem dX10_init_1 : decode cX10_init 1 = .ok (.invokespecial 3, 3) := by decide +kernel
theorem dX10_init_4 : decode cX10_init 4 = .ok (.aload_n 0, 1) := by decide +kernel
theorem dX10_init_5 : decode cX10_init 5 = .ok (.sipush 8400, 3) := by decide +kernel
theorem dX10_init_8 : decode cX10_init 8 = .ok (.newarray .byte, 2) := by decide +kernel
theorem dX10_init_10 : decode cX10_init 10 = .ok (.putfield 11, 3) := by decide +kernel
theorem dX10_init_13 : decode cX10_init 13 = .ok (.aload_n 0, 1) := by decide +kernel
theorem dX10_init_14 : decode cX10_init 14 = .ok (.sipush 8400, 3) := by decide +kernel
theorem dX10_init_17 : decode cX10_init 17 = .ok (.newarray .int, 2) := by decide +kernel
theorem dX10_init_19 : decode cX10_init 19 = .ok (.putfield 15, 3) := by decide +kernel
theorem dX10_init_22 : decode cX10_init 22 = .ok (.aload_n 0, 1) := by decide +kernel
theorem dX10_init_23 : decode cX10_init 23 = .ok (.sipush 8400, 3) := by decide +kernel
theorem dX10_init_26 : decode cX10_init 26 = .ok (.newarray .int, 2) := by decide +kernel
theorem dX10_init_28 : decode cX10_init 28 = .ok (.putfield 19, 3) := by decide +kernel
theorem dX10_init_31 : decode cX10_init 31 = .ok (.aload_n 0, 1) := by decide +kernel
theorem dX10_init_32 : decode cX10_init 32 = .ok (.sipush 8400, 3) := by decide +kernel
theorem dX10_init_35 : decode cX10_init 35 = .ok (.newarray .int, 2) := by decide +kernel
theorem dX10_init_37 : decode cX10_init 37 = .ok (.putfield 22, 3) := by decide +kernel
theorem dX10_init_40 : decode cX10_init 40 = .ok (.aload_n 0, 1) := by decide +kernel
theorem dX10_init_41 : decode cX10_init 41 = .ok (.sipush 8400, 3) := by decide +kernel
theorem dX10_init_44 : decode cX10_init 44 = .ok (.newarray .int, 2) := by decide +kernel
theorem dX10_init_46 : decode cX10_init 46 = .ok (.putfield 25, 3) := by decide +kernel
theorem dX10_init_49 : decode cX10_init 49 = .ok (.aload_n 0, 1) := by decide +kernel
theorem dX10_init_50 : decode cX10_init 50 = .ok (.sipush 8400, 3) := by decide +kernel
theorem dX10_init_53 : decode cX10_init 53 = .ok (.newarray .byte, 2) := by decide +kernel
theorem dX10_init_55 : decode cX10_init 55 = .ok (.putfield 28, 3) := by decide +kernel
theorem dX10_init_58 : decode cX10_init 58 = .ok (.aload_n 0, 1) := by decide +kernel
theorem dX10_init_59 : decode cX10_init 59 = .ok (.ldc 31, 2) := by decide +kernel
theorem dX10_init_61 : decode cX10_init 61 = .ok (.newarray .int, 2) := by decide +kernel
theorem dX10_init_63 : decode cX10_init 63 = .ok (.putfield 32, 3) := by decide +kernel
theorem dX10_init_66 : decode cX10_init 66 = .ok (.aload_n 0, 1) := by decide +kernel
theorem dX10_init_67 : decode cX10_init 67 = .ok (.bipush 60, 2) := by decide +kernel
theorem dX10_init_69 : decode cX10_init 69 = .ok (.newarray .int, 2) := by decide +kernel
theorem dX10_init_71 : decode cX10_init 71 = .ok (.putfield 35, 3) := by decide +kernel
theorem dX10_init_74 : decode cX10_init 74 = .ok (.aload_n 0, 1) := by decide +kernel
theorem dX10_init_75 : decode cX10_init 75 = .ok (.bipush 60, 2) := by decide +kernel
theorem dX10_init_77 : decode cX10_init 77 = .ok (.newarray .int, 2) := by decide +kernel
theorem dX10_init_79 : decode cX10_init 79 = .ok (.putfield 38, 3) := by decide +kernel
theorem dX10_init_82 : decode cX10_init 82 = .ok (.aload_n 0, 1) := by decide +kernel
theorem dX10_init_83 : decode cX10_init 83 = .ok (.bipush 60, 2) := by decide +kernel
theorem dX10_init_85 : decode cX10_init 85 = .ok (.newarray .int, 2) := by decide +kernel
theorem dX10_init_87 : decode cX10_init 87 = .ok (.putfield 41, 3) := by decide +kernel
theorem dX10_init_90 : decode cX10_init 90 = .ok (.aload_n 0, 1) := by decide +kernel
theorem dX10_init_91 : decode cX10_init 91 = .ok (.bipush 60, 2) := by decide +kernel
theorem dX10_init_93 : decode cX10_init 93 = .ok (.newarray .int, 2) := by decide +kernel
theorem dX10_init_95 : decode cX10_init 95 = .ok (.putfield 44, 3) := by decide +kernel
theorem dX10_init_98 : decode cX10_init 98 = .ok (.aload_n 0, 1) := by decide +kernel
theorem dX10_init_99 : decode cX10_init 99 = .ok (.iconst 0, 1) := by decide +kernel
theorem dX10_init_100 : decode cX10_init 100 = .ok (.putfield 47, 3) := by decide +kernel
theorem dX10_init_103 : decode cX10_init 103 = .ok (.aload_n 0, 1) := by decide +kernel
theorem dX10_init_104 : decode cX10_init 104 = .ok (.iconst 0, 1) := by decide +kernel
theorem dX10_init_105 : decode cX10_init 105 = .ok (.putfield 51, 3) := by decide +kernel
theorem dX10_init_108 : decode cX10_init 108 = .ok (.aload_n 0, 1) := by decide +kernel
theorem dX10_init_109 : decode cX10_init 109 = .ok (.iconst 0, 1) := by decide +kernel
theorem dX10_init_110 : decode cX10_init 110 = .ok (.putfield 54, 3) := by decide +kernel
theorem dX10_init_113 : decode cX10_init 113 = .ok (.return_, 1) := by decide +kernel
def t_3 (σ : Hp) : Hp := (pI (pI (pI (pR (nA (pR (nA (pR (nA (pR (nA (pR (nA (pR (nA (pR (nA (pR (nA (pR (nA (pR (nA (pR (nA σ 4) 3 0 (some 4)) 5) 3 1 (some 5)) 6) 3 2 (some 6)) 7) 3 3 (some 7)) 8) 3 4 (some 8)) 9) 3 5 (some 9)) 10) 3 6 (some 10)) 11) 3 7 (some 11)) 12) 3 8 (some 12)) 13) 3 9 (some 13)) 14) 3 10 (some 14)) 3 11 0) 3 12 0) 3 13 0)
set_option maxRecDepth 100000 in
theorem c_3 (σ : Hp) : Cx yX10_init cX10_init 1 none 1 4 15 [.ref 3] σ (fun o τ => o = .inl none ∧ τ = t_3 σ) := by
  refine Cx_of RX10 true (by decide) rfl (fun _ => rfl) (Nat.le_of_ble_eq_true rfl) rfl (Nat.le_of_ble_eq_true rfl) ?_
  refine Wx_aload0 dX10_init_0 ?_
  refine Wx_objInit ob_X10 ob_im ob_co dX10_init_1 (Nat.le_of_ble_eq_true rfl) (Nat.le_of_ble_eq_true rfl) ?_
  refine Wx_aload0 dX10_init_4 ?_
  refine Wx_sipush (v := 8400) dX10_init_5 (by decide) ?_
  refine Wx_newa 0 8400 dX10_init_8 rfl (by decide) ac_byte rfl (by decide) (by decide) (by decide) (Nat.le_of_ble_eq_true rfl) ?_
  refine Wx_putRF 10 0 dX10_init_10 f_X10_11 rfl (Nat.le_of_ble_eq_true rfl) rfl rfl rfl rfl ⟨_, _, _, rfl, gwt_1 39 rfl rfl⟩ ?_
  refine Wx_aload0 dX10_init_13 ?_
  refine Wx_sipush (v := 8400) dX10_init_14 (by decide) ?_
  refine Wx_newa 1 8400 dX10_init_17 rfl (by decide) ac_int rfl (by decide) (by decide) (by decide) (Nat.le_of_ble_eq_true rfl) ?_
  refine Wx_putRF 10 1 dX10_init_19 f_X10_15 rfl (Nat.le_of_ble_eq_true rfl) rfl rfl rfl rfl ⟨_, _, _, rfl, gwt_1 42 rfl rfl⟩ ?_
  refine Wx_aload0 dX10_init_22 ?_
  refine Wx_sipush (v := 8400) dX10_init_23 (by decide) ?_
  refine Wx_newa 1 8400 dX10_init_26 rfl (by decide) ac_int rfl (by decide) (by decide) (by decide) (Nat.le_of_ble_eq_true rfl) ?_
  refine Wx_putRF 10 2 dX10_init_28 f_X10_19 rfl (Nat.le_of_ble_eq_true rfl) rfl rfl rfl rfl ⟨_, _, _, rfl, gwt_1 45 rfl rfl⟩ ?_
  refine Wx_aload0 dX10_init_31 ?_
  refine Wx_sipush (v := 8400) dX10_init_32 (by decide) ?_
  refine Wx_newa 1 8400 dX10_init_35 rfl (by decide) ac_int rfl (by decide) (by decide) (by decide) (Nat.le_of_ble_eq_true rfl) ?_
  refine Wx_putRF 10 3 dX10_init_37 f_X10_22 rfl (Nat.le_of_ble_eq_true rfl) rfl rfl rfl rfl ⟨_, _, _, rfl, gwt_1 48 rfl rfl⟩ ?_
  refine Wx_aload0 dX10_init_40 ?_
  refine Wx_sipush (v := 8400) dX10_init_41 (by decide) ?_
  refine Wx_newa 1 8400 dX10_init_44 rfl (by decide) ac_int rfl (by decide) (by decide) (by decide) (Nat.le_of_ble_eq_true rfl) ?_
  refine Wx_putRF 10 4 dX10_init_46 f_X10_25 rfl (Nat.le_of_ble_eq_true rfl) rfl rfl rfl rfl ⟨_, _, _, rfl, gwt_1 50 rfl rfl⟩ ?_
  refine Wx_aload0 dX10_init_49 ?_
  refine Wx_sipush (v := 8400) dX10_init_50 (by decide) ?_
  refine Wx_newa 0 8400 dX10_init_53 rfl (by decide) ac_byte rfl (by decide) (by decide) (by decide) (Nat.le_of_ble_eq_true rfl) ?_
  refine Wx_putRF 10 5 dX10_init_55 f_X10_28 rfl (Nat.le_of_ble_eq_true rfl) rfl rfl rfl rfl ⟨_, _, _, rfl, gwt_1 51 rfl rfl⟩ ?_
  refine Wx_aload0 dX10_init_58 ?_
  refine Wx_ldc dX10_init_59 k_X10_31 ?_
  refine Wx_newa 1 67200 dX10_init_61 rfl (by decide) ac_int rfl (by decide) (by decide) (by decide) (Nat.le_of_ble_eq_true rfl) ?_
  refine Wx_putRF 10 6 dX10_init_63 f_X10_32 rfl (Nat.le_of_ble_eq_true rfl) rfl rfl rfl rfl ⟨_, _, _, rfl, gwt_1 54 rfl rfl⟩ ?_
  refine Wx_aload0 dX10_init_66 ?_
  refine Wx_bipush (v := 60) dX10_init_67 (by decide) ?_
  refine Wx_newa 1 60 dX10_init_69 rfl (by decide) ac_int rfl (by decide) (by decide) (by decide) (Nat.le_of_ble_eq_true rfl) ?_
  refine Wx_putRF 10 7 dX10_init_71 f_X10_35 rfl (Nat.le_of_ble_eq_true rfl) rfl rfl rfl rfl ⟨_, _, _, rfl, gwt_1 57 rfl rfl⟩ ?_
  refine Wx_aload0 dX10_init_74 ?_
  refine Wx_bipush (v := 60) dX10_init_75 (by decide) ?_
  refine Wx_newa 1 60 dX10_init_77 rfl (by decide) ac_int rfl (by decide) (by decide) (by decide) (Nat.le_of_ble_eq_true rfl) ?_
  refine Wx_putRF 10 8 dX10_init_79 f_X10_38 rfl (Nat.le_of_ble_eq_true rfl) rfl rfl rfl rfl ⟨_, _, _, rfl, gwt_1 60 rfl rfl⟩ ?_
  refine Wx_aload0 dX10_init_82 ?_
  refine Wx_bipush (v := 60) dX10_init_83 (by decide) ?_
  refine Wx_newa 1 60 dX10_init_85 rfl (by decide) ac_int rfl (by decide) (by decide) (by decide) (Nat.le_of_ble_eq_true rfl) ?_
  refine Wx_putRF 10 9 dX10_init_87 f_X10_41 rfl (Nat.le_of_ble_eq_true rfl) rfl rfl rfl rfl ⟨_, _, _, rfl, gwt_1 63 rfl rfl⟩ ?_
  refine Wx_aload0 dX10_init_90 ?_
  refine Wx_bipush (v := 60) dX10_init_91 (by decide) ?_
  refine Wx_newa 1 60 dX10_init_93 rfl (by decide) ac_int rfl (by decide) (by decide) (by decide) (Nat.le_of_ble_eq_true rfl) ?_
  refine Wx_putRF 10 10 dX10_init_95 f_X10_44 rfl (Nat.le_of_ble_eq_true rfl) rfl rfl rfl rfl ⟨_, _, _, rfl, gwt_1 66 rfl rfl⟩ ?_
  refine Wx_aload0 dX10_init_98 ?_
  refine Wx_iconst (v := 0) dX10_init_99 (by decide) ?_
  refine Wx_putI 10 11 dX10_init_100 f_X10_47 rfl (Nat.le_of_ble_eq_true rfl) rfl rfl ?_
  refine Wx_aload0 dX10_init_103 ?_
  refine Wx_iconst (v := 0) dX10_init_104 (by decide) ?_
  refine Wx_putI 10 12 dX10_init_105 f_X10_51 rfl (Nat.le_of_ble_eq_true rfl) rfl rfl ?_
  refine Wx_aload0 dX10_init_108 ?_
  refine Wx_iconst (v := 0) dX10_init_109 (by decide) ?_
  refine Wx_putI 10 13 dX10_init_110 f_X10_54 rfl (Nat.le_of_ble_eq_true rfl) rfl rfl ?_
  exact Wx_return dX10_init_113 rfl rfl ⟨rfl, rfl⟩
theorem dX9_init_0 : decode cX9_init 0 = .ok (.aload_n 0, 1) := by decide +kernel
theorem dX9_init_1 : decode cX9_init 1 = .ok (.invokespecial 3, 3) := by decide +kernel
theorem dX9_init_4 : decode cX9_init 4 = .ok (.aload_n 0, 1) := by decide +kernel
theorem dX9_init_5 : decode cX9_init 5 = .ok (.iconst 0, 1) := by decide +kernel
theorem dX9_init_6 : decode cX9_init 6 = .ok (.putfield 9, 3) := by decide +kernel
theorem dX9_init_9 : decode cX9_init 9 = .ok (.aload_n 0, 1) := by decide +kernel
theorem dX9_init_10 : decode cX9_init 10 = .ok (.iconst 0, 1) := by decide +kernel
theorem dX9_init_11 : decode cX9_init 11 = .ok (.putfield 15, 3) := by decide +kernel
theorem dX9_init_14 : decode cX9_init 14 = .ok (.aload_n 0, 1) := by decide +kernel
theorem dX9_init_15 : decode cX9_init 15 = .ok (.iconst (-1), 1) := by decide +kernel
theorem dX9_init_16 : decode cX9_init 16 = .ok (.putfield 18, 3) := by decide +kernel
theorem dX9_init_19 : decode cX9_init 19 = .ok (.aload_n 0, 1) := by decide +kernel
theorem dX9_init_20 : decode cX9_init 20 = .ok (.aload_n 1, 1) := by decide +kernel
theorem dX9_init_21 : decode cX9_init 21 = .ok (.putfield 21, 3) := by decide +kernel
theorem dX9_init_24 : decode cX9_init 24 = .ok (.aload_n 0, 1) := by decide +kernel
theorem dX9_init_25 : decode cX9_init 25 = .ok (.iconst 0, 1) := by decide +kernel
theorem dX9_init_26 : decode cX9_init 26 = .ok (.newarray .byte, 2) := by decide +kernel
theorem dX9_init_28 : decode cX9_init 28 = .ok (.putfield 25, 3) := by decide +kernel
theorem dX9_init_31 : decode cX9_init 31 = .ok (.return_, 1) := by decide +kernel
def t_15 (σ : Hp) : Hp := (pR (nA (pR (pI (pI (pI σ 15 2 0) 15 3 0) 15 4 (-1)) 15 0 (some 3)) 16) 15 1 (some 16))
set_option maxRecDepth 100000 in
theorem c_15 (σ : Hp) : Cx yX9_init cX9_init 2 none 1 16 17 [.ref 15, .ref 3] σ (fun o τ => o = .inl none ∧ τ = t_15 σ) := by
  refine Cx_of RX9 true (by decide) rfl (fun _ => rfl) (Nat.le_of_ble_eq_true rfl) rfl (Nat.le_of_ble_eq_true rfl) ?_
  refine Wx_aload0 dX9_init_0 ?_
  refine Wx_objInit ob_X9 ob_im ob_co dX9_init_1 (Nat.le_of_ble_eq_true rfl) (Nat.le_of_ble_eq_true rfl) ?_
  refine Wx_aload0 dX9_init_4 ?_
  refine Wx_iconst (v := 0) dX9_init_5 (by decide) ?_
  refine Wx_putI 9 2 dX9_init_6 f_X9_9 rfl (Nat.le_of_ble_eq_true rfl) rfl rfl ?_
  refine Wx_aload0 dX9_init_9 ?_
  refine Wx_iconst (v := 0) dX9_init_10 (by decide) ?_
  refine Wx_putI 9 3 dX9_init_11 f_X9_15 rfl (Nat.le_of_ble_eq_true rfl) rfl rfl ?_
  refine Wx_aload0 dX9_init_14 ?_
  refine Wx_iconst (v := (-1)) dX9_init_15 (by decide) ?_
  refine Wx_putI 9 4 dX9_init_16 f_X9_18 rfl (Nat.le_of_ble_eq_true rfl) rfl rfl ?_
  refine Wx_aload0 dX9_init_19 ?_
  refine Wx_aload1 dX9_init_20 ?_
  refine Wx_putRF 9 0 dX9_init_21 f_X9_21 rfl (Nat.le_of_ble_eq_true rfl) rfl rfl rfl rfl ⟨_, _, _, rfl, gwt_1 118 rfl rfl⟩ ?_
  refine Wx_aload0 dX9_init_24 ?_
  refine Wx_iconst (v := 0) dX9_init_25 (by decide) ?_
  refine Wx_newa 0 0 dX9_init_26 rfl (by decide) ac_byte rfl (by decide) (by decide) (by decide) (Nat.le_of_ble_eq_true rfl) ?_
  refine Wx_putR 9 1 dX9_init_28 f_X9_25 rfl (Nat.le_of_ble_eq_true rfl) rfl rfl ?_
  exact Wx_return dX9_init_31 rfl rfl ⟨rfl, rfl⟩
theorem dX5_init_0 : decode cX5_init 0 = .ok (.aload_n 0, 1) := by decide +kernel
theorem dX5_init_1 : decode cX5_init 1 = .ok (.invokespecial 5, 3) := by decide +kernel
theorem dX5_init_4 : decode cX5_init 4 = .ok (.aload_n 0, 1) := by decide +kernel
theorem dX5_init_5 : decode cX5_init 5 = .ok (.sipush 8400, 3) := by decide +kernel
theorem dX5_init_8 : decode cX5_init 8 = .ok (.newarray .long, 2) := by decide +kernel
theorem dX5_init_10 : decode cX5_init 10 = .ok (.putfield 11, 3) := by decide +kernel
theorem dX5_init_13 : decode cX5_init 13 = .ok (.aload_n 0, 1) := by decide +kernel
theorem dX5_init_14 : decode cX5_init 14 = .ok (.bipush 60, 2) := by decide +kernel
theorem dX5_init_16 : decode cX5_init 16 = .ok (.newarray .long, 2) := by decide +kernel
theorem dX5_init_18 : decode cX5_init 18 = .ok (.putfield 17, 3) := by decide +kernel
theorem dX5_init_21 : decode cX5_init 21 = .ok (.aload_n 0, 1) := by decide +kernel
theorem dX5_init_22 : decode cX5_init 22 = .ok (.iconst (-1), 1) := by decide +kernel
theorem dX5_init_23 : decode cX5_init 23 = .ok (.putfield 20, 3) := by decide +kernel
theorem dX5_init_26 : decode cX5_init 26 = .ok (.aload_n 0, 1) := by decide +kernel
theorem dX5_init_27 : decode cX5_init 27 = .ok (.aload_n 1, 1) := by decide +kernel
theorem dX5_init_28 : decode cX5_init 28 = .ok (.putfield 24, 3) := by decide +kernel
theorem dX5_init_31 : decode cX5_init 31 = .ok (.aload_n 0, 1) := by decide +kernel
theorem dX5_init_32 : decode cX5_init 32 = .ok (.iconst 0, 1) := by decide +kernel
theorem dX5_init_33 : decode cX5_init 33 = .ok (.newarray .byte, 2) := by decide +kernel
theorem dX5_init_35 : decode cX5_init 35 = .ok (.putfield 28, 3) := by decide +kernel
theorem dX5_init_38 : decode cX5_init 38 = .ok (.return_, 1) := by decide +kernel
def t_17 (σ : Hp) : Hp := (pR (nA (pR (pI (pR (nA (pR (nA σ 18) 17 1 (some 18)) 19) 17 2 (some 19)) 17 4 (-1)) 17 0 (some 3)) 20) 17 3 (some 20))
set_option maxRecDepth 100000 in
theorem c_17 (σ : Hp) : Cx yX5_init cX5_init 2 none 1 18 21 [.ref 17, .ref 3] σ (fun o τ => o = .inl none ∧ τ = t_17 σ) := by
  refine Cx_of RX5 true (by decide) rfl (fun _ => rfl) (Nat.le_of_ble_eq_true rfl) rfl (Nat.le_of_ble_eq_true rfl) ?_
  refine Wx_aload0 dX5_init_0 ?_
  refine Wx_objInit ob_X5 ob_im ob_co dX5_init_1 (Nat.le_of_ble_eq_true rfl) (Nat.le_of_ble_eq_true rfl) ?_
  refine Wx_aload0 dX5_init_4 ?_
  refine Wx_sipush (v := 8400) dX5_init_5 (by decide) ?_
  refine Wx_newa 2 8400 dX5_init_8 rfl (by decide) ac_long rfl (by decide) (by decide) (by decide) (Nat.le_of_ble_eq_true rfl) ?_
  refine Wx_putRF 5 1 dX5_init_10 f_X5_11 rfl (Nat.le_of_ble_eq_true rfl) rfl rfl rfl rfl ⟨_, _, _, rfl, gwt_1 142 rfl rfl⟩ ?_
  refine Wx_aload0 dX5_init_13 ?_
  refine Wx_bipush (v := 60) dX5_init_14 (by decide) ?_
  refine Wx_newa 2 60 dX5_init_16 rfl (by decide) ac_long rfl (by decide) (by decide) (by decide) (Nat.le_of_ble_eq_true rfl) ?_
  refine Wx_putRF 5 2 dX5_init_18 f_X5_17 rfl (Nat.le_of_ble_eq_true rfl) rfl rfl rfl rfl ⟨_, _, _, rfl, gwt_1 143 rfl rfl⟩ ?_
  refine Wx_aload0 dX5_init_21 ?_
  refine Wx_iconst (v := (-1)) dX5_init_22 (by decide) ?_
  refine Wx_putI 5 4 dX5_init_23 f_X5_20 rfl (Nat.le_of_ble_eq_true rfl) rfl rfl ?_
  refine Wx_aload0 dX5_init_26 ?_
  refine Wx_aload1 dX5_init_27 ?_
  refine Wx_putRF 5 0 dX5_init_28 f_X5_24 rfl (Nat.le_of_ble_eq_true rfl) rfl rfl rfl rfl ⟨_, _, _, rfl, gwt_1 141 rfl rfl⟩ ?_
  refine Wx_aload0 dX5_init_31 ?_
  refine Wx_iconst (v := 0) dX5_init_32 (by decide) ?_
  refine Wx_newa 0 0 dX5_init_33 rfl (by decide) ac_byte rfl (by decide) (by decide) (by decide) (Nat.le_of_ble_eq_true rfl) ?_
  refine Wx_putR 5 3 dX5_init_35 f_X5_28 rfl (Nat.le_of_ble_eq_true rfl) rfl rfl ?_
  exact Wx_return dX5_init_38 rfl rfl ⟨rfl, rfl⟩
theorem dX8_init_0 : decode cX8_init 0 = .ok (.aload_n 0, 1) := by decide +kernel
theorem dX8_init_1 : decode cX8_init 1 = .ok (.invokespecial 3, 3) := by decide +kernel
theorem dX8_init_4 : decode cX8_init 4 = .ok (.aload_n 0, 1) := by decide +kernel
theorem dX8_init_5 : decode cX8_init 5 = .ok (.sipush 2000, 3) := by decide +kernel
theorem dX8_init_8 : decode cX8_init 8 = .ok (.newarray .int, 2) := by decide +kernel
theorem dX8_init_10 : decode cX8_init 10 = .ok (.putfield 9, 3) := by decide +kernel
theorem dX8_init_13 : decode cX8_init 13 = .ok (.aload_n 0, 1) := by decide +kernel
theorem dX8_init_14 : decode cX8_init 14 = .ok (.sipush 2000, 3) := by decide +kernel
theorem dX8_init_17 : decode cX8_init 17 = .ok (.newarray .int, 2) := by decide +kernel
theorem dX8_init_19 : decode cX8_init 19 = .ok (.putfield 13, 3) := by decide +kernel
theorem dX8_init_22 : decode cX8_init 22 = .ok (.aload_n 0, 1) := by decide +kernel
theorem dX8_init_23 : decode cX8_init 23 = .ok (.sipush 2000, 3) := by decide +kernel
theorem dX8_init_26 : decode cX8_init 26 = .ok (.newarray .int, 2) := by decide +kernel
theorem dX8_init_28 : decode cX8_init 28 = .ok (.putfield 16, 3) := by decide +kernel
theorem dX8_init_31 : decode cX8_init 31 = .ok (.aload_n 0, 1) := by decide +kernel
theorem dX8_init_32 : decode cX8_init 32 = .ok (.sipush 2003, 3) := by decide +kernel
theorem dX8_init_35 : decode cX8_init 35 = .ok (.newarray .int, 2) := by decide +kernel
theorem dX8_init_37 : decode cX8_init 37 = .ok (.putfield 19, 3) := by decide +kernel
theorem dX8_init_40 : decode cX8_init 40 = .ok (.aload_n 0, 1) := by decide +kernel
theorem dX8_init_41 : decode cX8_init 41 = .ok (.sipush 1024, 3) := by decide +kernel
theorem dX8_init_44 : decode cX8_init 44 = .ok (.newarray .int, 2) := by decide +kernel
theorem dX8_init_46 : decode cX8_init 46 = .ok (.putfield 22, 3) := by decide +kernel
theorem dX8_init_49 : decode cX8_init 49 = .ok (.aload_n 0, 1) := by decide +kernel
theorem dX8_init_50 : decode cX8_init 50 = .ok (.bipush 60, 2) := by decide +kernel
theorem dX8_init_52 : decode cX8_init 52 = .ok (.newarray .int, 2) := by decide +kernel
theorem dX8_init_54 : decode cX8_init 54 = .ok (.putfield 27, 3) := by decide +kernel
theorem dX8_init_57 : decode cX8_init 57 = .ok (.aload_n 0, 1) := by decide +kernel
theorem dX8_init_58 : decode cX8_init 58 = .ok (.sipush 480, 3) := by decide +kernel
theorem dX8_init_61 : decode cX8_init 61 = .ok (.newarray .int, 2) := by decide +kernel
theorem dX8_init_63 : decode cX8_init 63 = .ok (.putfield 30, 3) := by decide +kernel
theorem dX8_init_66 : decode cX8_init 66 = .ok (.aload_n 0, 1) := by decide +kernel
theorem dX8_init_67 : decode cX8_init 67 = .ok (.bipush 60, 2) := by decide +kernel
theorem dX8_init_69 : decode cX8_init 69 = .ok (.newarray .int, 2) := by decide +kernel
theorem dX8_init_71 : decode cX8_init 71 = .ok (.putfield 33, 3) := by decide +kernel
theorem dX8_init_74 : decode cX8_init 74 = .ok (.aload_n 0, 1) := by decide +kernel
theorem dX8_init_75 : decode cX8_init 75 = .ok (.iconst 0, 1) := by decide +kernel
theorem dX8_init_76 : decode cX8_init 76 = .ok (.putfield 36, 3) := by decide +kernel
theorem dX8_init_79 : decode cX8_init 79 = .ok (.aload_n 0, 1) := by decide +kernel
theorem dX8_init_80 : decode cX8_init 80 = .ok (.iconst 0, 1) := by decide +kernel
theorem dX8_init_81 : decode cX8_init 81 = .ok (.putfield 40, 3) := by decide +kernel
theorem dX8_init_84 : decode cX8_init 84 = .ok (.aload_n 0, 1) := by decide +kernel
theorem dX8_init_85 : decode cX8_init 85 = .ok (.iconst 0, 1) := by decide +kernel
theorem dX8_init_86 : decode cX8_init 86 = .ok (.putfield 43, 3) := by decide +kernel
theorem dX8_init_89 : decode cX8_init 89 = .ok (.aload_n 0, 1) := by decide +kernel
theorem dX8_init_90 : decode cX8_init 90 = .ok (.iconst 0, 1) := by decide +kernel
theorem dX8_init_91 : decode cX8_init 91 = .ok (.putfield 46, 3) := by decide +kernel
theorem dX8_init_94 : decode cX8_init 94 = .ok (.aload_n 0, 1) := by decide +kernel
theorem dX8_init_95 : decode cX8_init 95 = .ok (.iconst 0, 1) := by decide +kernel
theorem dX8_init_96 : decode cX8_init 96 = .ok (.putfield 49, 3) := by decide +kernel
theorem dX8_init_99 : decode cX8_init 99 = .ok (.return_, 1) := by decide +kernel
def t_21 (σ : Hp) : Hp := (pI (pI (pI (pI (pI (pR (nA (pR (nA (pR (nA (pR (nA (pR (nA (pR (nA (pR (nA (pR (nA σ 22) 21 0 (some 22)) 23) 21 1 (some 23)) 24) 21 2 (some 24)) 25) 21 3 (some 25)) 26) 21 4 (some 26)) 27) 21 5 (some 27)) 28) 21 6 (some 28)) 29) 21 7 (some 29)) 21 8 0) 21 9 0) 21 10 0) 21 11 0) 21 12 0)
set_option maxRecDepth 100000 in
theorem c_21 (σ : Hp) : Cx yX8_init cX8_init 1 none 1 22 30 [.ref 21] σ (fun o τ => o = .inl none ∧ τ = t_21 σ) := by
  refine Cx_of RX8 true (by decide) rfl (fun _ => rfl) (Nat.le_of_ble_eq_true rfl) rfl (Nat.le_of_ble_eq_true rfl) ?_
  refine Wx_aload0 dX8_init_0 ?_
  refine Wx_objInit ob_X8 ob_im ob_co dX8_init_1 (Nat.le_of_ble_eq_true rfl) (Nat.le_of_ble_eq_true rfl) ?_
  refine Wx_aload0 dX8_init_4 ?_
  refine Wx_sipush (v := 2000) dX8_init_5 (by decide) ?_
  refine Wx_newa 1 2000 dX8_init_8 rfl (by decide) ac_int rfl (by decide) (by decide) (by decide) (Nat.le_of_ble_eq_true rfl) ?_
  refine Wx_putRF 8 0 dX8_init_10 f_X8_9 rfl (Nat.le_of_ble_eq_true rfl) rfl rfl rfl rfl ⟨_, _, _, rfl, gwt_1 165 rfl rfl⟩ ?_
  refine Wx_aload0 dX8_init_13 ?_
  refine Wx_sipush (v := 2000) dX8_init_14 (by decide) ?_
  refine Wx_newa 1 2000 dX8_init_17 rfl (by decide) ac_int rfl (by decide) (by decide) (by decide) (Nat.le_of_ble_eq_true rfl) ?_
  refine Wx_putRF 8 1 dX8_init_19 f_X8_13 rfl (Nat.le_of_ble_eq_true rfl) rfl rfl rfl rfl ⟨_, _, _, rfl, gwt_1 169 rfl rfl⟩ ?_
  refine Wx_aload0 dX8_init_22 ?_
  refine Wx_sipush (v := 2000) dX8_init_23 (by decide) ?_
  refine Wx_newa 1 2000 dX8_init_26 rfl (by decide) ac_int rfl (by decide) (by decide) (by decide) (Nat.le_of_ble_eq_true rfl) ?_
  refine Wx_putRF 8 2 dX8_init_28 f_X8_16 rfl (Nat.le_of_ble_eq_true rfl) rfl rfl rfl rfl ⟨_, _, _, rfl, gwt_1 173 rfl rfl⟩ ?_
  refine Wx_aload0 dX8_init_31 ?_
  refine Wx_sipush (v := 2003) dX8_init_32 (by decide) ?_
  refine Wx_newa 1 2003 dX8_init_35 rfl (by decide) ac_int rfl (by decide) (by decide) (by decide) (Nat.le_of_ble_eq_true rfl) ?_
  refine Wx_putRF 8 3 dX8_init_37 f_X8_19 rfl (Nat.le_of_ble_eq_true rfl) rfl rfl rfl rfl ⟨_, _, _, rfl, gwt_1 177 rfl rfl⟩ ?_
  refine Wx_aload0 dX8_init_40 ?_
  refine Wx_sipush (v := 1024) dX8_init_41 (by decide) ?_
  refine Wx_newa 1 1024 dX8_init_44 rfl (by decide) ac_int rfl (by decide) (by decide) (by decide) (Nat.le_of_ble_eq_true rfl) ?_
  refine Wx_putRF 8 4 dX8_init_46 f_X8_22 rfl (Nat.le_of_ble_eq_true rfl) rfl rfl rfl rfl ⟨_, _, _, rfl, gwt_1 180 rfl rfl⟩ ?_
  refine Wx_aload0 dX8_init_49 ?_
  refine Wx_bipush (v := 60) dX8_init_50 (by decide) ?_
  refine Wx_newa 1 60 dX8_init_52 rfl (by decide) ac_int rfl (by decide) (by decide) (by decide) (Nat.le_of_ble_eq_true rfl) ?_
  refine Wx_putRF 8 5 dX8_init_54 f_X8_27 rfl (Nat.le_of_ble_eq_true rfl) rfl rfl rfl rfl ⟨_, _, _, rfl, gwt_1 183 rfl rfl⟩ ?_
  refine Wx_aload0 dX8_init_57 ?_
  refine Wx_sipush (v := 480) dX8_init_58 (by decide) ?_
  refine Wx_newa 1 480 dX8_init_61 rfl (by decide) ac_int rfl (by decide) (by decide) (by decide) (Nat.le_of_ble_eq_true rfl) ?_
  refine Wx_putRF 8 6 dX8_init_63 f_X8_30 rfl (Nat.le_of_ble_eq_true rfl) rfl rfl rfl rfl ⟨_, _, _, rfl, gwt_1 186 rfl rfl⟩ ?_
  refine Wx_aload0 dX8_init_66 ?_
  refine Wx_bipush (v := 60) dX8_init_67 (by decide) ?_
  refine Wx_newa 1 60 dX8_init_69 rfl (by decide) ac_int rfl (by decide) (by decide) (by decide) (Nat.le_of_ble_eq_true rfl) ?_
  refine Wx_putRF 8 7 dX8_init_71 f_X8_33 rfl (Nat.le_of_ble_eq_true rfl) rfl rfl rfl rfl ⟨_, _, _, rfl, gwt_1 189 rfl rfl⟩ ?_
  refine Wx_aload0 dX8_init_74 ?_
  refine Wx_iconst (v := 0) dX8_init_75 (by decide) ?_
  refine Wx_putI 8 8 dX8_init_76 f_X8_36 rfl (Nat.le_of_ble_eq_true rfl) rfl rfl ?_
  refine Wx_aload0 dX8_init_79 ?_
  refine Wx_iconst (v := 0) dX8_init_80 (by decide) ?_
  refine Wx_putI 8 9 dX8_init_81 f_X8_40 rfl (Nat.le_of_ble_eq_true rfl) rfl rfl ?_
  refine Wx_aload0 dX8_init_84 ?_
  refine Wx_iconst (v := 0) dX8_init_85 (by decide) ?_
  refine Wx_putI 8 10 dX8_init_86 f_X8_43 rfl (Nat.le_of_ble_eq_true rfl) rfl rfl ?_
  refine Wx_aload0 dX8_init_89 ?_
  refine Wx_iconst (v := 0) dX8_init_90 (by decide) ?_
  refine Wx_putI 8 11 dX8_init_91 f_X8_46 rfl (Nat.le_of_ble_eq_true rfl) rfl rfl ?_
  refine Wx_aload0 dX8_init_94 ?_
  refine Wx_iconst (v := 0) dX8_init_95 (by decide) ?_
  refine Wx_putI 8 12 dX8_init_96 f_X8_49 rfl (Nat.le_of_ble_eq_true rfl) rfl rfl ?_
  exact Wx_return dX8_init_99 rfl rfl ⟨rfl, rfl⟩
def t_30 (σ : Hp) : Hp := (pI (pI (pI (pI (pI (pR (nA (pR (nA (pR (nA (pR (nA (pR (nA (pR (nA (pR (nA (pR (nA σ 31) 30 0 (some 31)) 32) 30 1 (some 32)) 33) 30 2 (some 33)) 34) 30 3 (some 34)) 35) 30 4 (some 35)) 36) 30 5 (some 36)) 37) 30 6 (some 37)) 38) 30 7 (some 38)) 30 8 0) 30 9 0) 30 10 0) 30 11 0) 30 12 0)
set_option maxRecDepth 100000 in
theorem c_30 (σ : Hp) : Cx yX8_init cX8_init 1 none 1 31 39 [.ref 30] σ (fun o τ => o = .inl none ∧ τ = t_30 σ) := by
  refine Cx_of RX8 true (by decide) rfl (fun _ => rfl) (Nat.le_of_ble_eq_true rfl) rfl (Nat.le_of_ble_eq_true rfl) ?_
  refine Wx_aload0 dX8_init_0 ?_
  refine Wx_objInit ob_X8 ob_im ob_co dX8_init_1 (Nat.le_of_ble_eq_true rfl) (Nat.le_of_ble_eq_true rfl) ?_
  refine Wx_aload0 dX8_init_4 ?_
  refine Wx_sipush (v := 2000) dX8_init_5 (by decide) ?_
  refine Wx_newa 1 2000 dX8_init_8 rfl (by decide) ac_int rfl (by decide) (by decide) (by decide) (Nat.le_of_ble_eq_true rfl) ?_
  refine Wx_putRF 8 0 dX8_init_10 f_X8_9 rfl (Nat.le_of_ble_eq_true rfl) rfl rfl rfl rfl ⟨_, _, _, rfl, gwt_1 165 rfl rfl⟩ ?_
  refine Wx_aload0 dX8_init_13 ?_
  refine Wx_sipush (v := 2000) dX8_init_14 (by decide) ?_
  refine Wx_newa 1 2000 dX8_init_17 rfl (by decide) ac_int rfl (by decide) (by decide) (by decide) (Nat.le_of_ble_eq_true rfl) ?_
  refine Wx_putRF 8 1 dX8_init_19 f_X8_13 rfl (Nat.le_of_ble_eq_true rfl) rfl rfl rfl rfl ⟨_, _, _, rfl, gwt_1 169 rfl rfl⟩ ?_
  refine Wx_aload0 dX8_init_22 ?_
  refine Wx_sipush (v := 2000) dX8_init_23 (by decide) ?_
  refine Wx_newa 1 2000 dX8_init_26 rfl (by decide) ac_int rfl (by decide) (by decide) (by decide) (Nat.le_of_ble_eq_true rfl) ?_
  refine Wx_putRF 8 2 dX8_init_28 f_X8_16 rfl (Nat.le_of_ble_eq_true rfl) rfl rfl rfl rfl ⟨_, _, _, rfl, gwt_1 173 rfl rfl⟩ ?_
  refine Wx_aload0 dX8_init_31 ?_
  refine Wx_sipush (v := 2003) dX8_init_32 (by decide) ?_
  refine Wx_newa 1 2003 dX8_init_35 rfl (by decide) ac_int rfl (by decide) (by decide) (by decide) (Nat.le_of_ble_eq_true rfl) ?_
  refine Wx_putRF 8 3 dX8_init_37 f_X8_19 rfl (Nat.le_of_ble_eq_true rfl) rfl rfl rfl rfl ⟨_, _, _, rfl, gwt_1 177 rfl rfl⟩ ?_
  refine Wx_aload0 dX8_init_40 ?_
  refine Wx_sipush (v := 1024) dX8_init_41 (by decide) ?_
  refine Wx_newa 1 1024 dX8_init_44 rfl (by decide) ac_int rfl (by decide) (by decide) (by decide) (Nat.le_of_ble_eq_true rfl) ?_
  refine Wx_putRF 8 4 dX8_init_46 f_X8_22 rfl (Nat.le_of_ble_eq_true rfl) rfl rfl rfl rfl ⟨_, _, _, rfl, gwt_1 180 rfl rfl⟩ ?_
  refine Wx_aload0 dX8_init_49 ?_
  refine Wx_bipush (v := 60) dX8_init_50 (by decide) ?_
  refine Wx_newa 1 60 dX8_init_52 rfl (by decide) ac_int rfl (by decide) (by decide) (by decide) (Nat.le_of_ble_eq_true rfl) ?_
  refine Wx_putRF 8 5 dX8_init_54 f_X8_27 rfl (Nat.le_of_ble_eq_true rfl) rfl rfl rfl rfl ⟨_, _, _, rfl, gwt_1 183 rfl rfl⟩ ?_
  refine Wx_aload0 dX8_init_57 ?_
  refine Wx_sipush (v := 480) dX8_init_58 (by decide) ?_
  refine Wx_newa 1 480 dX8_init_61 rfl (by decide) ac_int rfl (by decide) (by decide) (by decide) (Nat.le_of_ble_eq_true rfl) ?_
  refine Wx_putRF 8 6 dX8_init_63 f_X8_30 rfl (Nat.le_of_ble_eq_true rfl) rfl rfl rfl rfl ⟨_, _, _, rfl, gwt_1 186 rfl rfl⟩ ?_
  refine Wx_aload0 dX8_init_66 ?_
  refine Wx_bipush (v := 60) dX8_init_67 (by decide) ?_
  refine Wx_newa 1 60 dX8_init_69 rfl (by decide) ac_int rfl (by decide) (by decide) (by decide) (Nat.le_of_ble_eq_true rfl) ?_
  refine Wx_putRF 8 7 dX8_init_71 f_X8_33 rfl (Nat.le_of_ble_eq_true rfl) rfl rfl rfl rfl ⟨_, _, _, rfl, gwt_1 189 rfl rfl⟩ ?_
  refine Wx_aload0 dX8_init_74 ?_
  refine Wx_iconst (v := 0) dX8_init_75 (by decide) ?_
  refine Wx_putI 8 8 dX8_init_76 f_X8_36 rfl (Nat.le_of_ble_eq_true rfl) rfl rfl ?_
  refine Wx_aload0 dX8_init_79 ?_
  refine Wx_iconst (v := 0) dX8_init_80 (by decide) ?_
  refine Wx_putI 8 9 dX8_init_81 f_X8_40 rfl (Nat.le_of_ble_eq_true rfl) rfl rfl ?_
  refine Wx_aload0 dX8_init_84 ?_
  refine Wx_iconst (v := 0) dX8_init_85 (by decide) ?_
  refine Wx_putI 8 10 dX8_init_86 f_X8_43 rfl (Nat.le_of_ble_eq_true rfl) rfl rfl ?_
  refine Wx_aload0 dX8_init_89 ?_
  refine Wx_iconst (v := 0) dX8_init_90 (by decide) ?_
  refine Wx_putI 8 11 dX8_init_91 f_X8_46 rfl (Nat.le_of_ble_eq_true rfl) rfl rfl ?_
  refine Wx_aload0 dX8_init_94 ?_
  refine Wx_iconst (v := 0) dX8_init_95 (by decide) ?_
  refine Wx_putI 8 12 dX8_init_96 f_X8_49 rfl (Nat.le_of_ble_eq_true rfl) rfl rfl ?_
  exact Wx_return dX8_init_99 rfl rfl ⟨rfl, rfl⟩
theorem dX3_init_0 : decode cX3_init 0 = .ok (.aload_n 0, 1) := by decide +kernel
theorem dX3_init_1 : decode cX3_init 1 = .ok (.invokespecial 5, 3) := by decide +kernel
theorem dX3_init_4 : decode cX3_init 4 = .ok (.aload_n 0, 1) := by decide +kernel
theorem dX3_init_5 : decode cX3_init 5 = .ok (.sipush 8400, 3) := by decide +kernel
theorem dX3_init_8 : decode cX3_init 8 = .ok (.newarray .int, 2) := by decide +kernel
theorem dX3_init_10 : decode cX3_init 10 = .ok (.putfield 13, 3) := by decide +kernel
theorem dX3_init_13 : decode cX3_init 13 = .ok (.aload_n 0, 1) := by decide +kernel
theorem dX3_init_14 : decode cX3_init 14 = .ok (.sipush 8400, 3) := by decide +kernel
theorem dX3_init_17 : decode cX3_init 17 = .ok (.newarray .int, 2) := by decide +kernel
theorem dX3_init_19 : decode cX3_init 19 = .ok (.putfield 19, 3) := by decide +kernel
theorem dX3_init_22 : decode cX3_init 22 = .ok (.aload_n 0, 1) := by decide +kernel
theorem dX3_init_23 : decode cX3_init 23 = .ok (.sipush 2000, 3) := by decide +kernel
theorem dX3_init_26 : decode cX3_init 26 = .ok (.newarray .int, 2) := by decide +kernel
theorem dX3_init_28 : decode cX3_init 28 = .ok (.putfield 22, 3) := by decide +kernel
theorem dX3_init_31 : decode cX3_init 31 = .ok (.aload_n 0, 1) := by decide +kernel
theorem dX3_init_32 : decode cX3_init 32 = .ok (.sipush 2000, 3) := by decide +kernel
theorem dX3_init_35 : decode cX3_init 35 = .ok (.newarray .int, 2) := by decide +kernel
theorem dX3_init_37 : decode cX3_init 37 = .ok (.putfield 25, 3) := by decide +kernel
theorem dX3_init_40 : decode cX3_init 40 = .ok (.aload_n 0, 1) := by decide +kernel
theorem dX3_init_41 : decode cX3_init 41 = .ok (.iconst 0, 1) := by decide +kernel
theorem dX3_init_42 : decode cX3_init 42 = .ok (.putfield 28, 3) := by decide +kernel
theorem dX3_init_45 : decode cX3_init 45 = .ok (.aload_n 0, 1) := by decide +kernel
theorem dX3_init_46 : decode cX3_init 46 = .ok (.aload_n 1, 1) := by decide +kernel
theorem dX3_init_47 : decode cX3_init 47 = .ok (.putfield 32, 3) := by decide +kernel
theorem dX3_init_50 : decode cX3_init 50 = .ok (.aload_n 0, 1) := by decide +kernel
theorem dX3_init_51 : decode cX3_init 51 = .ok (.aload_n 2, 1) := by decide +kernel
theorem dX3_init_52 : decode cX3_init 52 = .ok (.putfield 36, 3) := by decide +kernel
theorem dX3_init_55 : decode cX3_init 55 = .ok (.return_, 1) := by decide +kernel
def t_39 (σ : Hp) : Hp := (pR (pR (pI (pR (nA (pR (nA (pR (nA (pR (nA σ 40) 39 2 (some 40)) 41) 39 3 (some 41)) 42) 39 4 (some 42)) 43) 39 5 (some 43)) 39 6 0) 39 0 (some 3)) 39 1 (some 30))
set_option maxRecDepth 100000 in
theorem c_39 (σ : Hp) : Cx yX3_init cX3_init 3 none 1 40 44 [.ref 39, .ref 3, .ref 30] σ (fun o τ => o = .inl none ∧ τ = t_39 σ) := by
  refine Cx_of RX3 true (by decide) rfl (fun _ => rfl) (Nat.le_of_ble_eq_true rfl) rfl (Nat.le_of_ble_eq_true rfl) ?_
  refine Wx_aload0 dX3_init_0 ?_
  refine Wx_objInit ob_X3 ob_im ob_co dX3_init_1 (Nat.le_of_ble_eq_true rfl) (Nat.le_of_ble_eq_true rfl) ?_
  refine Wx_aload0 dX3_init_4 ?_
  refine Wx_sipush (v := 8400) dX3_init_5 (by decide) ?_
  refine Wx_newa 1 8400 dX3_init_8 rfl (by decide) ac_int rfl (by decide) (by decide) (by decide) (Nat.le_of_ble_eq_true rfl) ?_
  refine Wx_putRF 3 2 dX3_init_10 f_X3_13 rfl (Nat.le_of_ble_eq_true rfl) rfl rfl rfl rfl ⟨_, _, _, rfl, gwt_2 3 rfl rfl⟩ ?_
  refine Wx_aload0 dX3_init_13 ?_
  refine Wx_sipush (v := 8400) dX3_init_14 (by decide) ?_
  refine Wx_newa 1 8400 dX3_init_17 rfl (by decide) ac_int rfl (by decide) (by decide) (by decide) (Nat.le_of_ble_eq_true rfl) ?_
  refine Wx_putRF 3 3 dX3_init_19 f_X3_19 rfl (Nat.le_of_ble_eq_true rfl) rfl rfl rfl rfl ⟨_, _, _, rfl, gwt_2 4 rfl rfl⟩ ?_
  refine Wx_aload0 dX3_init_22 ?_
  refine Wx_sipush (v := 2000) dX3_init_23 (by decide) ?_
  refine Wx_newa 1 2000 dX3_init_26 rfl (by decide) ac_int rfl (by decide) (by decide) (by decide) (Nat.le_of_ble_eq_true rfl) ?_
  refine Wx_putRF 3 4 dX3_init_28 f_X3_22 rfl (Nat.le_of_ble_eq_true rfl) rfl rfl rfl rfl ⟨_, _, _, rfl, gwt_2 5 rfl rfl⟩ ?_
  refine Wx_aload0 dX3_init_31 ?_
  refine Wx_sipush (v := 2000) dX3_init_32 (by decide) ?_
  refine Wx_newa 1 2000 dX3_init_35 rfl (by decide) ac_int rfl (by decide) (by decide) (by decide) (Nat.le_of_ble_eq_true rfl) ?_
  refine Wx_putRF 3 5 dX3_init_37 f_X3_25 rfl (Nat.le_of_ble_eq_true rfl) rfl rfl rfl rfl ⟨_, _, _, rfl, gwt_2 6 rfl rfl⟩ ?_
  refine Wx_aload0 dX3_init_40 ?_
  refine Wx_iconst (v := 0) dX3_init_41 (by decide) ?_
  refine Wx_putI 3 6 dX3_init_42 f_X3_28 rfl (Nat.le_of_ble_eq_true rfl) rfl rfl ?_
  refine Wx_aload0 dX3_init_45 ?_
  refine Wx_aload1 dX3_init_46 ?_
  refine Wx_putRF 3 0 dX3_init_47 f_X3_32 rfl (Nat.le_of_ble_eq_true rfl) rfl rfl rfl rfl ⟨_, _, _, rfl, gwt_2 1 rfl rfl⟩ ?_
  refine Wx_aload0 dX3_init_50 ?_
  refine Wx_aload2 dX3_init_51 ?_
  refine Wx_putR 3 1 dX3_init_52 f_X3_36 rfl (Nat.le_of_ble_eq_true rfl) rfl rfl ?_
  exact Wx_return dX3_init_55 rfl rfl ⟨rfl, rfl⟩
theorem dX1_init_0 : decode cX1_init 0 = .ok (.aload_n 0, 1) := by decide +kernel
theorem dX1_init_1 : decode cX1_init 1 = .ok (.invokespecial 5, 3) := by decide +kernel
theorem dX1_init_4 : decode cX1_init 4 = .ok (.aload_n 0, 1) := by decide +kernel
theorem dX1_init_5 : decode cX1_init 5 = .ok (.ldc 13, 2) := by decide +kernel
theorem dX1_init_7 : decode cX1_init 7 = .ok (.newarray .byte, 2) := by decide +kernel
theorem dX1_init_9 : decode cX1_init 9 = .ok (.putfield 14, 3) := by decide +kernel
theorem dX1_init_12 : decode cX1_init 12 = .ok (.aload_n 0, 1) := by decide +kernel
theorem dX1_init_13 : decode cX1_init 13 = .ok (.sipush 2000, 3) := by decide +kernel
theorem dX1_init_16 : decode cX1_init 16 = .ok (.newarray .byte, 2) := by decide +kernel
theorem dX1_init_18 : decode cX1_init 18 = .ok (.putfield 18, 3) := by decide +kernel
theorem dX1_init_21 : decode cX1_init 21 = .ok (.aload_n 0, 1) := by decide +kernel
theorem dX1_init_22 : decode cX1_init 22 = .ok (.sipush 6010, 3) := by decide +kernel
theorem dX1_init_25 : decode cX1_init 25 = .ok (.newarray .byte, 2) := by decide +kernel
theorem dX1_init_27 : decode cX1_init 27 = .ok (.putfield 21, 3) := by decide +kernel
theorem dX1_init_30 : decode cX1_init 30 = .ok (.aload_n 0, 1) := by decide +kernel
theorem dX1_init_31 : decode cX1_init 31 = .ok (.sipush 6010, 3) := by decide +kernel
theorem dX1_init_34 : decode cX1_init 34 = .ok (.newarray .int, 2) := by decide +kernel
theorem dX1_init_36 : decode cX1_init 36 = .ok (.putfield 24, 3) := by decide +kernel
theorem dX1_init_39 : decode cX1_init 39 = .ok (.aload_n 0, 1) := by decide +kernel
theorem dX1_init_40 : decode cX1_init 40 = .ok (.sipush 6010, 3) := by decide +kernel
theorem dX1_init_43 : decode cX1_init 43 = .ok (.newarray .int, 2) := by decide +kernel
theorem dX1_init_45 : decode cX1_init 45 = .ok (.putfield 28, 3) := by decide +kernel
theorem dX1_init_48 : decode cX1_init 48 = .ok (.aload_n 0, 1) := by decide +kernel
theorem dX1_init_49 : decode cX1_init 49 = .ok (.iconst 0, 1) := by decide +kernel
theorem dX1_init_50 : decode cX1_init 50 = .ok (.putfield 31, 3) := by decide +kernel
theorem dX1_init_53 : decode cX1_init 53 = .ok (.aload_n 0, 1) := by decide +kernel
theorem dX1_init_54 : decode cX1_init 54 = .ok (.iconst 0, 1) := by decide +kernel
theorem dX1_init_55 : decode cX1_init 55 = .ok (.putfield 35, 3) := by decide +kernel
theorem dX1_init_58 : decode cX1_init 58 = .ok (.aload_n 0, 1) := by decide +kernel
theorem dX1_init_59 : decode cX1_init 59 = .ok (.iconst (-1), 1) := by decide +kernel
theorem dX1_init_60 : decode cX1_init 60 = .ok (.putfield 38, 3) := by decide +kernel
theorem dX1_init_63 : decode cX1_init 63 = .ok (.aload_n 0, 1) := by decide +kernel
theorem dX1_init_64 : decode cX1_init 64 = .ok (.iconst 0, 1) := by decide +kernel
theorem dX1_init_65 : decode cX1_init 65 = .ok (.putfield 41, 3) := by decide +kernel
theorem dX1_init_68 : decode cX1_init 68 = .ok (.aload_n 0, 1) := by decide +kernel
theorem dX1_init_69 : decode cX1_init 69 = .ok (.aload_n 1, 1) := by decide +kernel
theorem dX1_init_70 : decode cX1_init 70 = .ok (.putfield 45, 3) := by decide +kernel
theorem dX1_init_73 : decode cX1_init 73 = .ok (.return_, 1) := by decide +kernel
def t_44 (σ : Hp) : Hp := (pR (pI (pI (pI (pI (pR (nA (pR (nA (pR (nA (pR (nA (pR (nA σ 45) 44 0 (some 45)) 46) 44 2 (some 46)) 47) 44 3 (some 47)) 48) 44 4 (some 48)) 49) 44 5 (some 49)) 44 6 0) 44 7 0) 44 8 (-1)) 44 9 0) 44 1 (some 30))
set_option maxRecDepth 100000 in
theorem c_44 (σ : Hp) : Cx yX1_init cX1_init 2 none 1 45 50 [.ref 44, .ref 30] σ (fun o τ => o = .inl none ∧ τ = t_44 σ) := by
  refine Cx_of RX1 true (by decide) rfl (fun _ => rfl) (Nat.le_of_ble_eq_true rfl) rfl (Nat.le_of_ble_eq_true rfl) ?_
  refine Wx_aload0 dX1_init_0 ?_
  refine Wx_objInit ob_X1 ob_im ob_co dX1_init_1 (Nat.le_of_ble_eq_true rfl) (Nat.le_of_ble_eq_true rfl) ?_
  refine Wx_aload0 dX1_init_4 ?_
  refine Wx_ldc dX1_init_5 k_X1_13 ?_
  refine Wx_newa 0 61440 dX1_init_7 rfl (by decide) ac_byte rfl (by decide) (by decide) (by decide) (Nat.le_of_ble_eq_true rfl) ?_
  refine Wx_putRF 1 0 dX1_init_9 f_X1_14 rfl (Nat.le_of_ble_eq_true rfl) rfl rfl rfl rfl ⟨_, _, _, rfl, gwt_2 30 rfl rfl⟩ ?_
  refine Wx_aload0 dX1_init_12 ?_
  refine Wx_sipush (v := 2000) dX1_init_13 (by decide) ?_
  refine Wx_newa 0 2000 dX1_init_16 rfl (by decide) ac_byte rfl (by decide) (by decide) (by decide) (Nat.le_of_ble_eq_true rfl) ?_
  refine Wx_putRF 1 2 dX1_init_18 f_X1_18 rfl (Nat.le_of_ble_eq_true rfl) rfl rfl rfl rfl ⟨_, _, _, rfl, gwt_2 33 rfl rfl⟩ ?_
  refine Wx_aload0 dX1_init_21 ?_
  refine Wx_sipush (v := 6010) dX1_init_22 (by decide) ?_
  refine Wx_newa 0 6010 dX1_init_25 rfl (by decide) ac_byte rfl (by decide) (by decide) (by decide) (Nat.le_of_ble_eq_true rfl) ?_
  refine Wx_putRF 1 3 dX1_init_27 f_X1_21 rfl (Nat.le_of_ble_eq_true rfl) rfl rfl rfl rfl ⟨_, _, _, rfl, gwt_2 34 rfl rfl⟩ ?_
  refine Wx_aload0 dX1_init_30 ?_
  refine Wx_sipush (v := 6010) dX1_init_31 (by decide) ?_
  refine Wx_newa 1 6010 dX1_init_34 rfl (by decide) ac_int rfl (by decide) (by decide) (by decide) (Nat.le_of_ble_eq_true rfl) ?_
  refine Wx_putRF 1 4 dX1_init_36 f_X1_24 rfl (Nat.le_of_ble_eq_true rfl) rfl rfl rfl rfl ⟨_, _, _, rfl, gwt_2 35 rfl rfl⟩ ?_
  refine Wx_aload0 dX1_init_39 ?_
  refine Wx_sipush (v := 6010) dX1_init_40 (by decide) ?_
  refine Wx_newa 1 6010 dX1_init_43 rfl (by decide) ac_int rfl (by decide) (by decide) (by decide) (Nat.le_of_ble_eq_true rfl) ?_
  refine Wx_putRF 1 5 dX1_init_45 f_X1_28 rfl (Nat.le_of_ble_eq_true rfl) rfl rfl rfl rfl ⟨_, _, _, rfl, gwt_2 36 rfl rfl⟩ ?_
  refine Wx_aload0 dX1_init_48 ?_
  refine Wx_iconst (v := 0) dX1_init_49 (by decide) ?_
  refine Wx_putI 1 6 dX1_init_50 f_X1_31 rfl (Nat.le_of_ble_eq_true rfl) rfl rfl ?_
  refine Wx_aload0 dX1_init_53 ?_
  refine Wx_iconst (v := 0) dX1_init_54 (by decide) ?_
  refine Wx_putI 1 7 dX1_init_55 f_X1_35 rfl (Nat.le_of_ble_eq_true rfl) rfl rfl ?_
  refine Wx_aload0 dX1_init_58 ?_
  refine Wx_iconst (v := (-1)) dX1_init_59 (by decide) ?_
  refine Wx_putI 1 8 dX1_init_60 f_X1_38 rfl (Nat.le_of_ble_eq_true rfl) rfl rfl ?_
  refine Wx_aload0 dX1_init_63 ?_
  refine Wx_iconst (v := 0) dX1_init_64 (by decide) ?_
  refine Wx_putZ 1 9 dX1_init_65 f_X1_41 rfl (Nat.le_of_ble_eq_true rfl) rfl rfl (by decide) ?_
  refine Wx_aload0 dX1_init_68 ?_
  refine Wx_aload1 dX1_init_69 ?_
  refine Wx_putR 1 1 dX1_init_70 f_X1_45 rfl (Nat.le_of_ble_eq_true rfl) rfl rfl ?_
  exact Wx_return dX1_init_73 rfl rfl ⟨rfl, rfl⟩
theorem dX0_init_0 : decode cX0_init 0 = .ok (.aload_n 0, 1) := by decide +kernel
theorem dX0_init_1 : decode cX0_init 1 = .ok (.invokespecial 1, 3) := by decide +kernel
theorem dX0_init_4 : decode cX0_init 4 = .ok (.aload_n 0, 1) := by decide +kernel
theorem dX0_init_5 : decode cX0_init 5 = .ok (.iconst 0, 1) := by decide +kernel
theorem dX0_init_6 : decode cX0_init 6 = .ok (.putfield 7, 3) := by decide +kernel
theorem dX0_init_9 : decode cX0_init 9 = .ok (.return_, 1) := by decide +kernel
def t_52 (σ : Hp) : Hp := (pI σ 52 0 0)
set_option maxRecDepth 100000 in
theorem c_52 (σ : Hp) : Cx yX0_init cX0_init 1 none 1 53 53 [.ref 52] σ (fun o τ => o = .inl none ∧ τ = t_52 σ) := by
  refine Cx_of RX0 true (by decide) rfl (fun _ => rfl) (Nat.le_of_ble_eq_true rfl) rfl (Nat.le_of_ble_eq_true rfl) ?_
  refine Wx_aload0 dX0_init_0 ?_
  refine Wx_objInit ob_X0 ob_im ob_co dX0_init_1 (Nat.le_of_ble_eq_true rfl) (Nat.le_of_ble_eq_true rfl) ?_
  refine Wx_aload0 dX0_init_4 ?_
  refine Wx_iconst (v := 0) dX0_init_5 (by decide) ?_
  refine Wx_putI 0 0 dX0_init_6 f_X0_7 rfl (Nat.le_of_ble_eq_true rfl) rfl rfl ?_
  exact Wx_return dX0_init_9 rfl rfl ⟨rfl, rfl⟩
theorem dX4_init_0 : decode cX4_init 0 = .ok (.aload_n 0, 1) := by decide +kernel
theorem dX4_init_1 : decode cX4_init 1 = .ok (.invokespecial 3, 3) := by decide +kernel
theorem dX4_init_4 : decode cX4_init 4 = .ok (.aload_n 0, 1) := by decide +kernel
theorem dX4_init_5 : decode cX4_init 5 = .ok (.iconst 0, 1) := by decide +kernel
theorem dX4_init_6 : decode cX4_init 6 = .ok (.putfield 9, 3) := by decide +kernel
theorem dX4_init_9 : decode cX4_init 9 = .ok (.aload_n 0, 1) := by decide +kernel
theorem dX4_init_10 : decode cX4_init 10 = .ok (.iconst 0, 1) := by decide +kernel
theorem dX4_init_11 : decode cX4_init 11 = .ok (.putfield 15, 3) := by decide +kernel
theorem dX4_init_14 : decode cX4_init 14 = .ok (.aload_n 0, 1) := by decide +kernel
theorem dX4_init_15 : decode cX4_init 15 = .ok (.iconst 0, 1) := by decide +kernel
theorem dX4_init_16 : decode cX4_init 16 = .ok (.putfield 18, 3) := by decide +kernel
theorem dX4_init_19 : decode cX4_init 19 = .ok (.aload_n 0, 1) := by decide +kernel
theorem dX4_init_20 : decode cX4_init 20 = .ok (.iconst 0, 1) := by decide +kernel
theorem dX4_init_21 : decode cX4_init 21 = .ok (.putfield 21, 3) := by decide +kernel
theorem dX4_init_24 : decode cX4_init 24 = .ok (.aload_n 0, 1) := by decide +kernel
theorem dX4_init_25 : decode cX4_init 25 = .ok (.iconst 0, 1) := by decide +kernel
theorem dX4_init_26 : decode cX4_init 26 = .ok (.putfield 24, 3) := by decide +kernel
theorem dX4_init_29 : decode cX4_init 29 = .ok (.aload_n 0, 1) := by decide +kernel
theorem dX4_init_30 : decode cX4_init 30 = .ok (.iconst 3, 1) := by decide +kernel
theorem dX4_init_31 : decode cX4_init 31 = .ok (.putfield 27, 3) := by decide +kernel
theorem dX4_init_34 : decode cX4_init 34 = .ok (.aload_n 0, 1) := by decide +kernel
theorem dX4_init_35 : decode cX4_init 35 = .ok (.iconst 0, 1) := by decide +kernel
theorem dX4_init_36 : decode cX4_init 36 = .ok (.putfield 30, 3) := by decide +kernel
theorem dX4_init_39 : decode cX4_init 39 = .ok (.aload_n 0, 1) := by decide +kernel
theorem dX4_init_40 : decode cX4_init 40 = .ok (.iconst 0, 1) := by decide +kernel
theorem dX4_init_41 : decode cX4_init 41 = .ok (.putfield 33, 3) := by decide +kernel
theorem dX4_init_44 : decode cX4_init 44 = .ok (.aload_n 0, 1) := by decide +kernel
theorem dX4_init_45 : decode cX4_init 45 = .ok (.iconst (-1), 1) := by decide +kernel
theorem dX4_init_46 : decode cX4_init 46 = .ok (.putfield 36, 3) := by decide +kernel
theorem dX4_init_49 : decode cX4_init 49 = .ok (.aload_n 0, 1) := by decide +kernel
theorem dX4_init_50 : decode cX4_init 50 = .ok (.iconst (-1), 1) := by decide +kernel
theorem dX4_init_51 : decode cX4_init 51 = .ok (.putfield 39, 3) := by decide +kernel
theorem dX4_init_54 : decode cX4_init 54 = .ok (.aload_n 0, 1) := by decide +kernel
theorem dX4_init_55 : decode cX4_init 55 = .ok (.iconst 0, 1) := by decide +kernel
theorem dX4_init_56 : decode cX4_init 56 = .ok (.putfield 42, 3) := by decide +kernel
theorem dX4_init_59 : decode cX4_init 59 = .ok (.aload_n 0, 1) := by decide +kernel
theorem dX4_init_60 : decode cX4_init 60 = .ok (.iconst 0, 1) := by decide +kernel
theorem dX4_init_61 : decode cX4_init 61 = .ok (.putfield 45, 3) := by decide +kernel
theorem dX4_init_64 : decode cX4_init 64 = .ok (.aload_n 0, 1) := by decide +kernel
theorem dX4_init_65 : decode cX4_init 65 = .ok (.iconst 0, 1) := by decide +kernel
theorem dX4_init_66 : decode cX4_init 66 = .ok (.putfield 48, 3) := by decide +kernel
theorem dX4_init_69 : decode cX4_init 69 = .ok (.aload_n 0, 1) := by decide +kernel
theorem dX4_init_70 : decode cX4_init 70 = .ok (.iconst 4, 1) := by decide +kernel
theorem dX4_init_71 : decode cX4_init 71 = .ok (.putfield 51, 3) := by decide +kernel
theorem dX4_init_74 : decode cX4_init 74 = .ok (.aload_n 0, 1) := by decide +kernel
theorem dX4_init_75 : decode cX4_init 75 = .ok (.iconst 0, 1) := by decide +kernel
theorem dX4_init_76 : decode cX4_init 76 = .ok (.putfield 54, 3) := by decide +kernel
theorem dX4_init_79 : decode cX4_init 79 = .ok (.aload_n 0, 1) := by decide +kernel
theorem dX4_init_80 : decode cX4_init 80 = .ok (.iconst 0, 1) := by decide +kernel
theorem dX4_init_81 : decode cX4_init 81 = .ok (.putfield 57, 3) := by decide +kernel
theorem dX4_init_84 : decode cX4_init 84 = .ok (.aload_n 0, 1) := by decide +kernel
theorem dX4_init_85 : decode cX4_init 85 = .ok (.aload_n 1, 1) := by decide +kernel
theorem dX4_init_86 : decode cX4_init 86 = .ok (.putfield 61, 3) := by decide +kernel
theorem dX4_init_89 : decode cX4_init 89 = .ok (.return_, 1) := by decide +kernel
def t_55 (σ : Hp) : Hp := (pR (pI (pI (pI (pI (pI (pI (pI (pI (pI (pI (pI (pI (pI (pI (pI (pI σ 55 1 0) 55 2 0) 55 3 0) 55 4 0) 55 5 0) 55 6 3) 55 7 0) 55 8 0) 55 9 (-1)) 55 10 (-1)) 55 11 0) 55 12 0) 55 13 0) 55 14 4) 55 15 0) 55 16 0) 55 0 (some 53))
set_option maxRecDepth 100000 in
theorem c_55 (σ : Hp) : Cx yX4_init cX4_init 2 none 1 56 56 [.ref 55, .ref 53] σ (fun o τ => o = .inl none ∧ τ = t_55 σ) := by
  refine Cx_of RX4 true (by decide) rfl (fun _ => rfl) (Nat.le_of_ble_eq_true rfl) rfl (Nat.le_of_ble_eq_true rfl) ?_
  refine Wx_aload0 dX4_init_0 ?_
  refine Wx_objInit ob_X4 ob_im ob_co dX4_init_1 (Nat.le_of_ble_eq_true rfl) (Nat.le_of_ble_eq_true rfl) ?_
  refine Wx_aload0 dX4_init_4 ?_
  refine Wx_iconst (v := 0) dX4_init_5 (by decide) ?_
  refine Wx_putI 4 1 dX4_init_6 f_X4_9 rfl (Nat.le_of_ble_eq_true rfl) rfl rfl ?_
  refine Wx_aload0 dX4_init_9 ?_
  refine Wx_iconst (v := 0) dX4_init_10 (by decide) ?_
  refine Wx_putI 4 2 dX4_init_11 f_X4_15 rfl (Nat.le_of_ble_eq_true rfl) rfl rfl ?_
  refine Wx_aload0 dX4_init_14 ?_
  refine Wx_iconst (v := 0) dX4_init_15 (by decide) ?_
  refine Wx_putI 4 3 dX4_init_16 f_X4_18 rfl (Nat.le_of_ble_eq_true rfl) rfl rfl ?_
  refine Wx_aload0 dX4_init_19 ?_
  refine Wx_iconst (v := 0) dX4_init_20 (by decide) ?_
  refine Wx_putI 4 4 dX4_init_21 f_X4_21 rfl (Nat.le_of_ble_eq_true rfl) rfl rfl ?_
  refine Wx_aload0 dX4_init_24 ?_
  refine Wx_iconst (v := 0) dX4_init_25 (by decide) ?_
  refine Wx_putI 4 5 dX4_init_26 f_X4_24 rfl (Nat.le_of_ble_eq_true rfl) rfl rfl ?_
  refine Wx_aload0 dX4_init_29 ?_
  refine Wx_iconst (v := 3) dX4_init_30 (by decide) ?_
  refine Wx_putI 4 6 dX4_init_31 f_X4_27 rfl (Nat.le_of_ble_eq_true rfl) rfl rfl ?_
  refine Wx_aload0 dX4_init_34 ?_
  refine Wx_iconst (v := 0) dX4_init_35 (by decide) ?_
  refine Wx_putI 4 7 dX4_init_36 f_X4_30 rfl (Nat.le_of_ble_eq_true rfl) rfl rfl ?_
  refine Wx_aload0 dX4_init_39 ?_
  refine Wx_iconst (v := 0) dX4_init_40 (by decide) ?_
  refine Wx_putI 4 8 dX4_init_41 f_X4_33 rfl (Nat.le_of_ble_eq_true rfl) rfl rfl ?_
  refine Wx_aload0 dX4_init_44 ?_
  refine Wx_iconst (v := (-1)) dX4_init_45 (by decide) ?_
  refine Wx_putI 4 9 dX4_init_46 f_X4_36 rfl (Nat.le_of_ble_eq_true rfl) rfl rfl ?_
  refine Wx_aload0 dX4_init_49 ?_
  refine Wx_iconst (v := (-1)) dX4_init_50 (by decide) ?_
  refine Wx_putI 4 10 dX4_init_51 f_X4_39 rfl (Nat.le_of_ble_eq_true rfl) rfl rfl ?_
  refine Wx_aload0 dX4_init_54 ?_
  refine Wx_iconst (v := 0) dX4_init_55 (by decide) ?_
  refine Wx_putI 4 11 dX4_init_56 f_X4_42 rfl (Nat.le_of_ble_eq_true rfl) rfl rfl ?_
  refine Wx_aload0 dX4_init_59 ?_
  refine Wx_iconst (v := 0) dX4_init_60 (by decide) ?_
  refine Wx_putI 4 12 dX4_init_61 f_X4_45 rfl (Nat.le_of_ble_eq_true rfl) rfl rfl ?_
  refine Wx_aload0 dX4_init_64 ?_
  refine Wx_iconst (v := 0) dX4_init_65 (by decide) ?_
  refine Wx_putI 4 13 dX4_init_66 f_X4_48 rfl (Nat.le_of_ble_eq_true rfl) rfl rfl ?_
  refine Wx_aload0 dX4_init_69 ?_
  refine Wx_iconst (v := 4) dX4_init_70 (by decide) ?_
  refine Wx_putI 4 14 dX4_init_71 f_X4_51 rfl (Nat.le_of_ble_eq_true rfl) rfl rfl ?_
  refine Wx_aload0 dX4_init_74 ?_
  refine Wx_iconst (v := 0) dX4_init_75 (by decide) ?_
  refine Wx_putI 4 15 dX4_init_76 f_X4_54 rfl (Nat.le_of_ble_eq_true rfl) rfl rfl ?_
  refine Wx_aload0 dX4_init_79 ?_
  refine Wx_iconst (v := 0) dX4_init_80 (by decide) ?_
  refine Wx_putZ 4 16 dX4_init_81 f_X4_57 rfl (Nat.le_of_ble_eq_true rfl) rfl rfl (by decide) ?_
  refine Wx_aload0 dX4_init_84 ?_
  refine Wx_aload1 dX4_init_85 ?_
  refine Wx_putR 4 0 dX4_init_86 f_X4_61 rfl (Nat.le_of_ble_eq_true rfl) rfl rfl ?_
  exact Wx_return dX4_init_89 rfl rfl ⟨rfl, rfl⟩
theorem dX7_init_0 : decode cX7_init 0 = .ok (.aload_n 0, 1) := by decide +kernel
theorem dX7_init_1 : decode cX7_init 1 = .ok (.invokespecial 3, 3) := by decide +kernel
theorem dX7_init_4 : decode cX7_init 4 = .ok (.aload_n 0, 1) := by decide +kernel
theorem dX7_init_5 : decode cX7_init 5 = .ok (.bipush 8, 2) := by decide +kernel
theorem dX7_init_7 : decode cX7_init 7 = .ok (.newarray .int, 2) := by decide +kernel
theorem dX7_init_9 : decode cX7_init 9 = .ok (.putfield 9, 3) := by decide +kernel
theorem dX7_init_12 : decode cX7_init 12 = .ok (.aload_n 0, 1) := by decide +kernel
theorem dX7_init_13 : decode cX7_init 13 = .ok (.new 15, 3) := by decide +kernel
theorem dX7_init_16 : decode cX7_init 16 = .ok (.dup, 1) := by decide +kernel
theorem dX7_init_17 : decode cX7_init 17 = .ok (.invokespecial 17, 3) := by decide +kernel
theorem dX7_init_20 : decode cX7_init 20 = .ok (.putfield 18, 3) := by decide +kernel
theorem dX7_init_23 : decode cX7_init 23 = .ok (.aload_n 0, 1) := by decide +kernel
theorem dX7_init_24 : decode cX7_init 24 = .ok (.ldc 24, 2) := by decide +kernel
theorem dX7_init_26 : decode cX7_init 26 = .ok (.newarray .byte, 2) := by decide +kernel
theorem dX7_init_28 : decode cX7_init 28 = .ok (.putfield 25, 3) := by decide +kernel
theorem dX7_init_31 : decode cX7_init 31 = .ok (.aload_n 0, 1) := by decide +kernel
theorem dX7_init_32 : decode cX7_init 32 = .ok (.iconst 0, 1) := by decide +kernel
theorem dX7_init_33 : decode cX7_init 33 = .ok (.putfield 29, 3) := by decide +kernel
theorem dX7_init_36 : decode cX7_init 36 = .ok (.aload_n 0, 1) := by decide +kernel
theorem dX7_init_37 : decode cX7_init 37 = .ok (.ldc 33, 2) := by decide +kernel
theorem dX7_init_39 : decode cX7_init 39 = .ok (.newarray .byte, 2) := by decide +kernel
theorem dX7_init_41 : decode cX7_init 41 = .ok (.putfield 34, 3) := by decide +kernel
theorem dX7_init_44 : decode cX7_init 44 = .ok (.aload_n 0, 1) := by decide +kernel
theorem dX7_init_45 : decode cX7_init 45 = .ok (.ldc 33, 2) := by decide +kernel
theorem dX7_init_47 : decode cX7_init 47 = .ok (.putfield 37, 3) := by decide +kernel
theorem dX7_init_50 : decode cX7_init 50 = .ok (.aload_n 0, 1) := by decide +kernel
theorem dX7_init_51 : decode cX7_init 51 = .ok (.iconst 0, 1) := by decide +kernel
theorem dX7_init_52 : decode cX7_init 52 = .ok (.putfield 40, 3) := by decide +kernel
theorem dX7_init_55 : decode cX7_init 55 = .ok (.aload_n 0, 1) := by decide +kernel
theorem dX7_init_56 : decode cX7_init 56 = .ok (.iconst 0, 1) := by decide +kernel
theorem dX7_init_57 : decode cX7_init 57 = .ok (.putfield 43, 3) := by decide +kernel
theorem dX7_init_60 : decode cX7_init 60 = .ok (.aload_n 0, 1) := by decide +kernel
theorem dX7_init_61 : decode cX7_init 61 = .ok (.new 46, 3) := by decide +kernel
theorem dX7_init_64 : decode cX7_init 64 = .ok (.dup, 1) := by decide +kernel
theorem dX7_init_65 : decode cX7_init 65 = .ok (.aload_n 0, 1) := by decide +kernel
theorem dX7_init_66 : decode cX7_init 66 = .ok (.getfield 25, 3) := by decide +kernel
theorem dX7_init_69 : decode cX7_init 69 = .ok (.invokespecial 48, 3) := by decide +kernel
theorem dX7_init_72 : decode cX7_init 72 = .ok (.putfield 51, 3) := by decide +kernel
theorem dX7_init_75 : decode cX7_init 75 = .ok (.aload_n 0, 1) := by decide +kernel
theorem dX7_init_76 : decode cX7_init 76 = .ok (.iconst 0, 1) := by decide +kernel
theorem dX7_init_77 : decode cX7_init 77 = .ok (.putfield 55, 3) := by decide +kernel
theorem dX7_init_80 : decode cX7_init 80 = .ok (.aload_n 0, 1) := by decide +kernel
theorem dX7_init_81 : decode cX7_init 81 = .ok (.iconst 0, 1) := by decide +kernel
theorem dX7_init_82 : decode cX7_init 82 = .ok (.putfield 58, 3) := by decide +kernel
theorem dX7_init_85 : decode cX7_init 85 = .ok (.return_, 1) := by decide +kernel
def t_50 (σ : Hp) : Hp := (pI (pI (pR (t_55 (nO (pI (pI (pI (pR (nA (pI (pR (nA (pR (t_52 (nO (pR (nA σ 51) 50 0 (some 51)) 52)) 50 1 (some 52)) 53) 50 2 (some 53)) 50 3 0) 54) 50 4 (some 54)) 50 5 65536) 50 6 0) 50 7 0) 55)) 50 8 (some 55)) 50 9 0) 50 10 0)
set_option maxRecDepth 100000 in
theorem c_50 (σ : Hp) : Cx yX7_init cX7_init 1 none 2 51 56 [.ref 50] σ (fun o τ => o = .inl none ∧ τ = t_50 σ) := by
  refine Cx_of RX7 true (by decide) rfl (fun _ => rfl) (Nat.le_of_ble_eq_true rfl) rfl (Nat.le_of_ble_eq_true rfl) ?_
  refine Wx_aload0 dX7_init_0 ?_
  refine Wx_objInit ob_X7 ob_im ob_co dX7_init_1 (Nat.le_of_ble_eq_true rfl) (Nat.le_of_ble_eq_true rfl) ?_
  refine Wx_aload0 dX7_init_4 ?_
  refine Wx_bipush (v := 8) dX7_init_5 (by decide) ?_
  refine Wx_newa 1 8 dX7_init_7 rfl (by decide) ac_int rfl (by decide) (by decide) (by decide) (Nat.le_of_ble_eq_true rfl) ?_
  refine Wx_putRF 7 0 dX7_init_9 f_X7_9 rfl (Nat.le_of_ble_eq_true rfl) rfl rfl rfl rfl ⟨_, _, _, rfl, gwt_2 164 rfl rfl⟩ ?_
  refine Wx_aload0 dX7_init_12 ?_
  refine Wx_new 0 dX7_init_13 rfl cl_X7_15 in_X0 it_X0 rfl (Nat.le_of_ble_eq_true rfl) (by decide) ?_
  refine Wx_dup dX7_init_16 rfl ?_
  refine Wx_ctor 52 [] 0 m_X0_init l_X7_17 im_X0_init rfl dX7_init_17 (c_52 _) (Nat.le_of_ble_eq_true rfl) (Nat.le_of_ble_eq_true rfl) (Nat.le_of_ble_eq_true rfl) rfl (Nat.le_of_ble_eq_true rfl) rfl ?_
  refine Wx_putRF 7 1 dX7_init_20 f_X7_18 rfl (Nat.le_of_ble_eq_true rfl) rfl rfl rfl rfl ⟨_, _, _, rfl, gwt_2 167 rfl rfl⟩ ?_
  refine Wx_aload0 dX7_init_23 ?_
  refine Wx_ldc dX7_init_24 k_X7_24 ?_
  refine Wx_newa 0 61440 dX7_init_26 rfl (by decide) ac_byte rfl (by decide) (by decide) (by decide) (Nat.le_of_ble_eq_true rfl) ?_
  refine Wx_putRF 7 2 dX7_init_28 f_X7_25 rfl (Nat.le_of_ble_eq_true rfl) rfl rfl rfl rfl ⟨_, _, _, rfl, gwt_2 169 rfl rfl⟩ ?_
  refine Wx_aload0 dX7_init_31 ?_
  refine Wx_iconst (v := 0) dX7_init_32 (by decide) ?_
  refine Wx_putI 7 3 dX7_init_33 f_X7_29 rfl (Nat.le_of_ble_eq_true rfl) rfl rfl ?_
  refine Wx_aload0 dX7_init_36 ?_
  refine Wx_ldc dX7_init_37 k_X7_33 ?_
  refine Wx_newa 0 65536 dX7_init_39 rfl (by decide) ac_byte rfl (by decide) (by decide) (by decide) (Nat.le_of_ble_eq_true rfl) ?_
  refine Wx_putRF 7 4 dX7_init_41 f_X7_34 rfl (Nat.le_of_ble_eq_true rfl) rfl rfl rfl rfl ⟨_, _, _, rfl, gwt_2 173 rfl rfl⟩ ?_
  refine Wx_aload0 dX7_init_44 ?_
  refine Wx_ldc dX7_init_45 k_X7_33 ?_
  refine Wx_putI 7 5 dX7_init_47 f_X7_37 rfl (Nat.le_of_ble_eq_true rfl) rfl rfl ?_
  refine Wx_aload0 dX7_init_50 ?_
  refine Wx_iconst (v := 0) dX7_init_51 (by decide) ?_
  refine Wx_putI 7 6 dX7_init_52 f_X7_40 rfl (Nat.le_of_ble_eq_true rfl) rfl rfl ?_
  refine Wx_aload0 dX7_init_55 ?_
  refine Wx_iconst (v := 0) dX7_init_56 (by decide) ?_
  refine Wx_putI 7 7 dX7_init_57 f_X7_43 rfl (Nat.le_of_ble_eq_true rfl) rfl rfl ?_
  refine Wx_aload0 dX7_init_60 ?_
  refine Wx_new 4 dX7_init_61 rfl cl_X7_46 in_X4 it_X4 rfl (Nat.le_of_ble_eq_true rfl) (by decide) ?_
  refine Wx_dup dX7_init_64 rfl ?_
  refine Wx_aload0 dX7_init_65 ?_
  refine Wx_getR 7 2 53 dX7_init_66 f_X7_25 rfl (Nat.le_of_ble_eq_true rfl) rfl rfl ?_
  refine Wx_ctor 55 [.ref 53] 1 m_X4_init l_X7_48 im_X4_init rfl dX7_init_69 (c_55 _) (Nat.le_of_ble_eq_true rfl) (Nat.le_of_ble_eq_true rfl) (Nat.le_of_ble_eq_true rfl) rfl (Nat.le_of_ble_eq_true rfl) rfl ?_
  refine Wx_putRF 7 8 dX7_init_72 f_X7_51 rfl (Nat.le_of_ble_eq_true rfl) rfl rfl rfl rfl ⟨_, _, _, rfl, gwt_2 181 rfl rfl⟩ ?_
  refine Wx_aload0 dX7_init_75 ?_
  refine Wx_iconst (v := 0) dX7_init_76 (by decide) ?_
  refine Wx_putI 7 9 dX7_init_77 f_X7_55 rfl (Nat.le_of_ble_eq_true rfl) rfl rfl ?_
  refine Wx_aload0 dX7_init_80 ?_
  refine Wx_iconst (v := 0) dX7_init_81 (by decide) ?_
  refine Wx_putI 7 10 dX7_init_82 f_X7_58 rfl (Nat.le_of_ble_eq_true rfl) rfl rfl ?_
  exact Wx_return dX7_init_85 rfl rfl ⟨rfl, rfl⟩
def t_60 (σ : Hp) : Hp := (pR (pI (pI (pI (pI (pI (pI (pI (pI (pI (pI (pI (pI (pI (pI (pI (pI σ 60 1 0) 60 2 0) 60 3 0) 60 4 0) 60 5 0) 60 6 3) 60 7 0) 60 8 0) 60 9 (-1)) 60 10 (-1)) 60 11 0) 60 12 0) 60 13 0) 60 14 4) 60 15 0) 60 16 0) 60 0 (some 61))
set_option maxRecDepth 100000 in
theorem c_60 (σ : Hp) : Cx yX4_init cX4_init 2 none 1 62 62 [.ref 60, .ref 61] σ (fun o τ => o = .inl none ∧ τ = t_60 σ) := by
  refine Cx_of RX4 true (by decide) rfl (fun _ => rfl) (Nat.le_of_ble_eq_true rfl) rfl (Nat.le_of_ble_eq_true rfl) ?_
  refine Wx_aload0 dX4_init_0 ?_
  refine Wx_objInit ob_X4 ob_im ob_co dX4_init_1 (Nat.le_of_ble_eq_true rfl) (Nat.le_of_ble_eq_true rfl) ?_
  refine Wx_aload0 dX4_init_4 ?_
  refine Wx_iconst (v := 0) dX4_init_5 (by decide) ?_
  refine Wx_putI 4 1 dX4_init_6 f_X4_9 rfl (Nat.le_of_ble_eq_true rfl) rfl rfl ?_
  refine Wx_aload0 dX4_init_9 ?_
  refine Wx_iconst (v := 0) dX4_init_10 (by decide) ?_
  refine Wx_putI 4 2 dX4_init_11 f_X4_15 rfl (Nat.le_of_ble_eq_true rfl) rfl rfl ?_
  refine Wx_aload0 dX4_init_14 ?_
  refine Wx_iconst (v := 0) dX4_init_15 (by decide) ?_
  refine Wx_putI 4 3 dX4_init_16 f_X4_18 rfl (Nat.le_of_ble_eq_true rfl) rfl rfl ?_
  refine Wx_aload0 dX4_init_19 ?_
  refine Wx_iconst (v := 0) dX4_init_20 (by decide) ?_
  refine Wx_putI 4 4 dX4_init_21 f_X4_21 rfl (Nat.le_of_ble_eq_true rfl) rfl rfl ?_
  refine Wx_aload0 dX4_init_24 ?_
  refine Wx_iconst (v := 0) dX4_init_25 (by decide) ?_
  refine Wx_putI 4 5 dX4_init_26 f_X4_24 rfl (Nat.le_of_ble_eq_true rfl) rfl rfl ?_
  refine Wx_aload0 dX4_init_29 ?_
  refine Wx_iconst (v := 3) dX4_init_30 (by decide) ?_
  refine Wx_putI 4 6 dX4_init_31 f_X4_27 rfl (Nat.le_of_ble_eq_true rfl) rfl rfl ?_
  refine Wx_aload0 dX4_init_34 ?_
  refine Wx_iconst (v := 0) dX4_init_35 (by decide) ?_
  refine Wx_putI 4 7 dX4_init_36 f_X4_30 rfl (Nat.le_of_ble_eq_true rfl) rfl rfl ?_
  refine Wx_aload0 dX4_init_39 ?_
  refine Wx_iconst (v := 0) dX4_init_40 (by decide) ?_
  refine Wx_putI 4 8 dX4_init_41 f_X4_33 rfl (Nat.le_of_ble_eq_true rfl) rfl rfl ?_
  refine Wx_aload0 dX4_init_44 ?_
  refine Wx_iconst (v := (-1)) dX4_init_45 (by decide) ?_
  refine Wx_putI 4 9 dX4_init_46 f_X4_36 rfl (Nat.le_of_ble_eq_true rfl) rfl rfl ?_
  refine Wx_aload0 dX4_init_49 ?_
  refine Wx_iconst (v := (-1)) dX4_init_50 (by decide) ?_
  refine Wx_putI 4 10 dX4_init_51 f_X4_39 rfl (Nat.le_of_ble_eq_true rfl) rfl rfl ?_
  refine Wx_aload0 dX4_init_54 ?_
  refine Wx_iconst (v := 0) dX4_init_55 (by decide) ?_
  refine Wx_putI 4 11 dX4_init_56 f_X4_42 rfl (Nat.le_of_ble_eq_true rfl) rfl rfl ?_
  refine Wx_aload0 dX4_init_59 ?_
  refine Wx_iconst (v := 0) dX4_init_60 (by decide) ?_
  refine Wx_putI 4 12 dX4_init_61 f_X4_45 rfl (Nat.le_of_ble_eq_true rfl) rfl rfl ?_
  refine Wx_aload0 dX4_init_64 ?_
  refine Wx_iconst (v := 0) dX4_init_65 (by decide) ?_
  refine Wx_putI 4 13 dX4_init_66 f_X4_48 rfl (Nat.le_of_ble_eq_true rfl) rfl rfl ?_
  refine Wx_aload0 dX4_init_69 ?_
  refine Wx_iconst (v := 4) dX4_init_70 (by decide) ?_
  refine Wx_putI 4 14 dX4_init_71 f_X4_51 rfl (Nat.le_of_ble_eq_true rfl) rfl rfl ?_
  refine Wx_aload0 dX4_init_74 ?_
  refine Wx_iconst (v := 0) dX4_init_75 (by decide) ?_
  refine Wx_putI 4 15 dX4_init_76 f_X4_54 rfl (Nat.le_of_ble_eq_true rfl) rfl rfl ?_
  refine Wx_aload0 dX4_init_79 ?_
  refine Wx_iconst (v := 0) dX4_init_80 (by decide) ?_
  refine Wx_putZ 4 16 dX4_init_81 f_X4_57 rfl (Nat.le_of_ble_eq_true rfl) rfl rfl (by decide) ?_
  refine Wx_aload0 dX4_init_84 ?_
  refine Wx_aload1 dX4_init_85 ?_
  refine Wx_putR 4 0 dX4_init_86 f_X4_61 rfl (Nat.le_of_ble_eq_true rfl) rfl rfl ?_
  exact Wx_return dX4_init_89 rfl rfl ⟨rfl, rfl⟩
theorem dX2_init_0 : decode cX2_init 0 = .ok (.aload_n 0, 1) := by decide +kernel
theorem dX2_init_1 : decode cX2_init 1 = .ok (.invokespecial 3, 3) := by decide +kernel
theorem dX2_init_4 : decode cX2_init 4 = .ok (.aload_n 0, 1) := by decide +kernel
theorem dX2_init_5 : decode cX2_init 5 = .ok (.sipush 1920, 3) := by decide +kernel
theorem dX2_init_8 : decode cX2_init 8 = .ok (.newarray .int, 2) := by decide +kernel
theorem dX2_init_10 : decode cX2_init 10 = .ok (.putfield 11, 3) := by decide +kernel
theorem dX2_init_13 : decode cX2_init 13 = .ok (.aload_n 0, 1) := by decide +kernel
theorem dX2_init_14 : decode cX2_init 14 = .ok (.sipush 1920, 3) := by decide +kernel
theorem dX2_init_17 : decode cX2_init 17 = .ok (.newarray .int, 2) := by decide +kernel
theorem dX2_init_19 : decode cX2_init 19 = .ok (.putfield 17, 3) := by decide +kernel
theorem dX2_init_22 : decode cX2_init 22 = .ok (.aload_n 0, 1) := by decide +kernel
theorem dX2_init_23 : decode cX2_init 23 = .ok (.bipush 8, 2) := by decide +kernel
theorem dX2_init_25 : decode cX2_init 25 = .ok (.newarray .int, 2) := by decide +kernel
theorem dX2_init_27 : decode cX2_init 27 = .ok (.putfield 20, 3) := by decide +kernel
theorem dX2_init_30 : decode cX2_init 30 = .ok (.aload_n 0, 1) := by decide +kernel
theorem dX2_init_31 : decode cX2_init 31 = .ok (.new 23, 3) := by decide +kernel
theorem dX2_init_34 : decode cX2_init 34 = .ok (.dup, 1) := by decide +kernel
theorem dX2_init_35 : decode cX2_init 35 = .ok (.iconst 0, 1) := by decide +kernel
theorem dX2_init_36 : decode cX2_init 36 = .ok (.newarray .byte, 2) := by decide +kernel
theorem dX2_init_38 : decode cX2_init 38 = .ok (.invokespecial 25, 3) := by decide +kernel
theorem dX2_init_41 : decode cX2_init 41 = .ok (.putfield 28, 3) := by decide +kernel
theorem dX2_init_44 : decode cX2_init 44 = .ok (.aload_n 0, 1) := by decide +kernel
theorem dX2_init_45 : decode cX2_init 45 = .ok (.iconst 0, 1) := by decide +kernel
theorem dX2_init_46 : decode cX2_init 46 = .ok (.newarray .byte, 2) := by decide +kernel
theorem dX2_init_48 : decode cX2_init 48 = .ok (.putfield 32, 3) := by decide +kernel
theorem dX2_init_51 : decode cX2_init 51 = .ok (.aload_n 0, 1) := by decide +kernel
theorem dX2_init_52 : decode cX2_init 52 = .ok (.iconst 0, 1) := by decide +kernel
theorem dX2_init_53 : decode cX2_init 53 = .ok (.putfield 36, 3) := by decide +kernel
theorem dX2_init_56 : decode cX2_init 56 = .ok (.aload_n 0, 1) := by decide +kernel
theorem dX2_init_57 : decode cX2_init 57 = .ok (.iconst 0, 1) := by decide +kernel
theorem dX2_init_58 : decode cX2_init 58 = .ok (.putfield 40, 3) := by decide +kernel
theorem dX2_init_61 : decode cX2_init 61 = .ok (.aload_n 0, 1) := by decide +kernel
theorem dX2_init_62 : decode cX2_init 62 = .ok (.iconst 0, 1) := by decide +kernel
theorem dX2_init_63 : decode cX2_init 63 = .ok (.putfield 43, 3) := by decide +kernel
theorem dX2_init_66 : decode cX2_init 66 = .ok (.aload_n 0, 1) := by decide +kernel
theorem dX2_init_67 : decode cX2_init 67 = .ok (.iconst 0, 1) := by decide +kernel
theorem dX2_init_68 : decode cX2_init 68 = .ok (.putfield 46, 3) := by decide +kernel
theorem dX2_init_71 : decode cX2_init 71 = .ok (.aload_n 0, 1) := by decide +kernel
theorem dX2_init_72 : decode cX2_init 72 = .ok (.iconst 0, 1) := by decide +kernel
theorem dX2_init_73 : decode cX2_init 73 = .ok (.putfield 50, 3) := by decide +kernel
theorem dX2_init_76 : decode cX2_init 76 = .ok (.aload_n 0, 1) := by decide +kernel
theorem dX2_init_77 : decode cX2_init 77 = .ok (.iconst (-1), 1) := by decide +kernel
theorem dX2_init_78 : decode cX2_init 78 = .ok (.putfield 53, 3) := by decide +kernel
theorem dX2_init_81 : decode cX2_init 81 = .ok (.return_, 1) := by decide +kernel
def t_56 (σ : Hp) : Hp := (pI (pI (pI (pI (pI (pI (pR (nA (pR (t_60 (nA (nO (pR (nA (pR (nA (pR (nA σ 57) 56 0 (some 57)) 58) 56 1 (some 58)) 59) 56 2 (some 59)) 60) 61)) 56 3 (some 60)) 62) 56 4 (some 62)) 56 5 0) 56 6 0) 56 7 0) 56 8 0) 56 9 0) 56 10 (-1))
set_option maxRecDepth 100000 in
theorem c_56 (σ : Hp) : Cx yX2_init cX2_init 1 none 2 57 63 [.ref 56] σ (fun o τ => o = .inl none ∧ τ = t_56 σ) := by
  refine Cx_of RX2 true (by decide) rfl (fun _ => rfl) (Nat.le_of_ble_eq_true rfl) rfl (Nat.le_of_ble_eq_true rfl) ?_
  refine Wx_aload0 dX2_init_0 ?_
  refine Wx_objInit ob_X2 ob_im ob_co dX2_init_1 (Nat.le_of_ble_eq_true rfl) (Nat.le_of_ble_eq_true rfl) ?_
  refine Wx_aload0 dX2_init_4 ?_
  refine Wx_sipush (v := 1920) dX2_init_5 (by decide) ?_
  refine Wx_newa 1 1920 dX2_init_8 rfl (by decide) ac_int rfl (by decide) (by decide) (by decide) (Nat.le_of_ble_eq_true rfl) ?_
  refine Wx_putRF 2 0 dX2_init_10 f_X2_11 rfl (Nat.le_of_ble_eq_true rfl) rfl rfl rfl rfl ⟨_, _, _, rfl, gwt_2 215 rfl rfl⟩ ?_
  refine Wx_aload0 dX2_init_13 ?_
  refine Wx_sipush (v := 1920) dX2_init_14 (by decide) ?_
  refine Wx_newa 1 1920 dX2_init_17 rfl (by decide) ac_int rfl (by decide) (by decide) (by decide) (Nat.le_of_ble_eq_true rfl) ?_
  refine Wx_putRF 2 1 dX2_init_19 f_X2_17 rfl (Nat.le_of_ble_eq_true rfl) rfl rfl rfl rfl ⟨_, _, _, rfl, gwt_2 216 rfl rfl⟩ ?_
  refine Wx_aload0 dX2_init_22 ?_
  refine Wx_bipush (v := 8) dX2_init_23 (by decide) ?_
  refine Wx_newa 1 8 dX2_init_25 rfl (by decide) ac_int rfl (by decide) (by decide) (by decide) (Nat.le_of_ble_eq_true rfl) ?_
  refine Wx_putRF 2 2 dX2_init_27 f_X2_20 rfl (Nat.le_of_ble_eq_true rfl) rfl rfl rfl rfl ⟨_, _, _, rfl, gwt_2 217 rfl rfl⟩ ?_
  refine Wx_aload0 dX2_init_30 ?_
  refine Wx_new 4 dX2_init_31 rfl cl_X2_23 in_X4 it_X4 rfl (Nat.le_of_ble_eq_true rfl) (by decide) ?_
  refine Wx_dup dX2_init_34 rfl ?_
  refine Wx_iconst (v := 0) dX2_init_35 (by decide) ?_
  refine Wx_newa 0 0 dX2_init_36 rfl (by decide) ac_byte rfl (by decide) (by decide) (by decide) (Nat.le_of_ble_eq_true rfl) ?_
  refine Wx_ctor 60 [.ref 61] 1 m_X4_init l_X2_25 im_X4_init rfl dX2_init_38 (c_60 _) (Nat.le_of_ble_eq_true rfl) (Nat.le_of_ble_eq_true rfl) (Nat.le_of_ble_eq_true rfl) rfl (Nat.le_of_ble_eq_true rfl) rfl ?_
  refine Wx_putRF 2 3 dX2_init_41 f_X2_28 rfl (Nat.le_of_ble_eq_true rfl) rfl rfl rfl rfl ⟨_, _, _, rfl, gwt_2 218 rfl rfl⟩ ?_
  refine Wx_aload0 dX2_init_44 ?_
  refine Wx_iconst (v := 0) dX2_init_45 (by decide) ?_
  refine Wx_newa 0 0 dX2_init_46 rfl (by decide) ac_byte rfl (by decide) (by decide) (by decide) (Nat.le_of_ble_eq_true rfl) ?_
  refine Wx_putR 2 4 dX2_init_48 f_X2_32 rfl (Nat.le_of_ble_eq_true rfl) rfl rfl ?_
  refine Wx_aload0 dX2_init_51 ?_
  refine Wx_iconst (v := 0) dX2_init_52 (by decide) ?_
  refine Wx_putI 2 5 dX2_init_53 f_X2_36 rfl (Nat.le_of_ble_eq_true rfl) rfl rfl ?_
  refine Wx_aload0 dX2_init_56 ?_
  refine Wx_iconst (v := 0) dX2_init_57 (by decide) ?_
  refine Wx_putI 2 6 dX2_init_58 f_X2_40 rfl (Nat.le_of_ble_eq_true rfl) rfl rfl ?_
  refine Wx_aload0 dX2_init_61 ?_
  refine Wx_iconst (v := 0) dX2_init_62 (by decide) ?_
  refine Wx_putI 2 7 dX2_init_63 f_X2_43 rfl (Nat.le_of_ble_eq_true rfl) rfl rfl ?_
  refine Wx_aload0 dX2_init_66 ?_
  refine Wx_iconst (v := 0) dX2_init_67 (by decide) ?_
  refine Wx_putZ 2 8 dX2_init_68 f_X2_46 rfl (Nat.le_of_ble_eq_true rfl) rfl rfl (by decide) ?_
  refine Wx_aload0 dX2_init_71 ?_
  refine Wx_iconst (v := 0) dX2_init_72 (by decide) ?_
  refine Wx_putI 2 9 dX2_init_73 f_X2_50 rfl (Nat.le_of_ble_eq_true rfl) rfl rfl ?_
  refine Wx_aload0 dX2_init_76 ?_
  refine Wx_iconst (v := (-1)) dX2_init_77 (by decide) ?_
  refine Wx_putI 2 10 dX2_init_78 f_X2_53 rfl (Nat.le_of_ble_eq_true rfl) rfl rfl ?_
  exact Wx_return dX2_init_81 rfl rfl ⟨rfl, rfl⟩
theorem dX6_init_0 : decode cX6_init 0 = .ok (.aload_n 0, 1) := by decide +kernel
theorem dX6_init_1 : decode cX6_init 1 = .ok (.invokespecial 3, 3) := by decide +kernel
theorem dX6_init_4 : decode cX6_init 4 = .ok (.aload_n 0, 1) := by decide +kernel
theorem dX6_init_5 : decode cX6_init 5 = .ok (.sipush 1000, 3) := by decide +kernel
theorem dX6_init_8 : decode cX6_init 8 = .ok (.newarray .int, 2) := by decide +kernel
theorem dX6_init_10 : decode cX6_init 10 = .ok (.putfield 9, 3) := by decide +kernel
theorem dX6_init_13 : decode cX6_init 13 = .ok (.aload_n 0, 1) := by decide +kernel
theorem dX6_init_14 : decode cX6_init 14 = .ok (.sipush 1000, 3) := by decide +kernel
theorem dX6_init_17 : decode cX6_init 17 = .ok (.newarray .int, 2) := by decide +kernel
theorem dX6_init_19 : decode cX6_init 19 = .ok (.putfield 15, 3) := by decide +kernel
theorem dX6_init_22 : decode cX6_init 22 = .ok (.aload_n 0, 1) := by decide +kernel
theorem dX6_init_23 : decode cX6_init 23 = .ok (.iconst 0, 1) := by decide +kernel
theorem dX6_init_24 : decode cX6_init 24 = .ok (.putfield 18, 3) := by decide +kernel
theorem dX6_init_27 : decode cX6_init 27 = .ok (.aload_n 0, 1) := by decide +kernel
theorem dX6_init_28 : decode cX6_init 28 = .ok (.iconst 0, 1) := by decide +kernel
theorem dX6_init_29 : decode cX6_init 29 = .ok (.putfield 22, 3) := by decide +kernel
theorem dX6_init_32 : decode cX6_init 32 = .ok (.aload_n 0, 1) := by decide +kernel
theorem dX6_init_33 : decode cX6_init 33 = .ok (.iconst 0, 1) := by decide +kernel
theorem dX6_init_34 : decode cX6_init 34 = .ok (.putfield 25, 3) := by decide +kernel
theorem dX6_init_37 : decode cX6_init 37 = .ok (.return_, 1) := by decide +kernel
def t_63 (σ : Hp) : Hp := (pI (pI (pI (pR (nA (pR (nA σ 64) 63 0 (some 64)) 65) 63 1 (some 65)) 63 2 0) 63 3 0) 63 4 0)
set_option maxRecDepth 100000 in
theorem c_63 (σ : Hp) : Cx yX6_init cX6_init 1 none 1 64 66 [.ref 63] σ (fun o τ => o = .inl none ∧ τ = t_63 σ) := by
  refine Cx_of RX6 true (by decide) rfl (fun _ => rfl) (Nat.le_of_ble_eq_true rfl) rfl (Nat.le_of_ble_eq_true rfl) ?_
  refine Wx_aload0 dX6_init_0 ?_
  refine Wx_objInit ob_X6 ob_im ob_co dX6_init_1 (Nat.le_of_ble_eq_true rfl) (Nat.le_of_ble_eq_true rfl) ?_
  refine Wx_aload0 dX6_init_4 ?_
  refine Wx_sipush (v := 1000) dX6_init_5 (by decide) ?_
  refine Wx_newa 1 1000 dX6_init_8 rfl (by decide) ac_int rfl (by decide) (by decide) (by decide) (Nat.le_of_ble_eq_true rfl) ?_
  refine Wx_putRF 6 0 dX6_init_10 f_X6_9 rfl (Nat.le_of_ble_eq_true rfl) rfl rfl rfl rfl ⟨_, _, _, rfl, gwt_3 17 rfl rfl⟩ ?_
  refine Wx_aload0 dX6_init_13 ?_
  refine Wx_sipush (v := 1000) dX6_init_14 (by decide) ?_
  refine Wx_newa 1 1000 dX6_init_17 rfl (by decide) ac_int rfl (by decide) (by decide) (by decide) (Nat.le_of_ble_eq_true rfl) ?_
  refine Wx_putRF 6 1 dX6_init_19 f_X6_15 rfl (Nat.le_of_ble_eq_true rfl) rfl rfl rfl rfl ⟨_, _, _, rfl, gwt_3 19 rfl rfl⟩ ?_
  refine Wx_aload0 dX6_init_22 ?_
  refine Wx_iconst (v := 0) dX6_init_23 (by decide) ?_
  refine Wx_putI 6 2 dX6_init_24 f_X6_18 rfl (Nat.le_of_ble_eq_true rfl) rfl rfl ?_
  refine Wx_aload0 dX6_init_27 ?_
  refine Wx_iconst (v := 0) dX6_init_28 (by decide) ?_
  refine Wx_putI 6 3 dX6_init_29 f_X6_22 rfl (Nat.le_of_ble_eq_true rfl) rfl rfl ?_
  refine Wx_aload0 dX6_init_32 ?_
  refine Wx_iconst (v := 0) dX6_init_33 (by decide) ?_
  refine Wx_putI 6 4 dX6_init_34 f_X6_25 rfl (Nat.le_of_ble_eq_true rfl) rfl rfl ?_
  exact Wx_return dX6_init_37 rfl rfl ⟨rfl, rfl⟩
theorem dX11_init_0 : decode cX11_init 0 = .ok (.aload_n 0, 1) := by decide +kernel
theorem dX11_init_1 : decode cX11_init 1 = .ok (.invokespecial 1, 3) := by decide +kernel
theorem dX11_init_4 : decode cX11_init 4 = .ok (.aload_n 0, 1) := by decide +kernel
theorem dX11_init_5 : decode cX11_init 5 = .ok (.sipush 4000, 3) := by decide +kernel
theorem dX11_init_8 : decode cX11_init 8 = .ok (.newarray .byte, 2) := by decide +kernel
theorem dX11_init_10 : decode cX11_init 10 = .ok (.putfield 9, 3) := by decide +kernel
theorem dX11_init_13 : decode cX11_init 13 = .ok (.aload_n 0, 1) := by decide +kernel
theorem dX11_init_14 : decode cX11_init 14 = .ok (.iconst 0, 1) := by decide +kernel
theorem dX11_init_15 : decode cX11_init 15 = .ok (.putfield 13, 3) := by decide +kernel
theorem dX11_init_18 : decode cX11_init 18 = .ok (.aload_n 0, 1) := by decide +kernel
theorem dX11_init_19 : decode cX11_init 19 = .ok (.sipush 4000, 3) := by decide +kernel
theorem dX11_init_22 : decode cX11_init 22 = .ok (.newarray .byte, 2) := by decide +kernel
theorem dX11_init_24 : decode cX11_init 24 = .ok (.putfield 17, 3) := by decide +kernel
theorem dX11_init_27 : decode cX11_init 27 = .ok (.aload_n 0, 1) := by decide +kernel
theorem dX11_init_28 : decode cX11_init 28 = .ok (.iconst 0, 1) := by decide +kernel
theorem dX11_init_29 : decode cX11_init 29 = .ok (.putfield 20, 3) := by decide +kernel
theorem dX11_init_32 : decode cX11_init 32 = .ok (.aload_n 0, 1) := by decide +kernel
theorem dX11_init_33 : decode cX11_init 33 = .ok (.iconst (-1), 1) := by decide +kernel
theorem dX11_init_34 : decode cX11_init 34 = .ok (.putfield 23, 3) := by decide +kernel
theorem dX11_init_37 : decode cX11_init 37 = .ok (.aload_n 0, 1) := by decide +kernel
theorem dX11_init_38 : decode cX11_init 38 = .ok (.iconst (-1), 1) := by decide +kernel
theorem dX11_init_39 : decode cX11_init 39 = .ok (.putfield 26, 3) := by decide +kernel
theorem dX11_init_42 : decode cX11_init 42 = .ok (.aload_n 0, 1) := by decide +kernel
theorem dX11_init_43 : decode cX11_init 43 = .ok (.new 29, 3) := by decide +kernel
theorem dX11_init_46 : decode cX11_init 46 = .ok (.dup, 1) := by decide +kernel
theorem dX11_init_47 : decode cX11_init 47 = .ok (.invokespecial 31, 3) := by decide +kernel
theorem dX11_init_50 : decode cX11_init 50 = .ok (.putfield 32, 3) := by decide +kernel
theorem dX11_init_53 : decode cX11_init 53 = .ok (.aload_n 0, 1) := by decide +kernel
theorem dX11_init_54 : decode cX11_init 54 = .ok (.new 36, 3) := by decide +kernel
theorem dX11_init_57 : decode cX11_init 57 = .ok (.dup, 1) := by decide +kernel
theorem dX11_init_58 : decode cX11_init 58 = .ok (.aload_n 0, 1) := by decide +kernel
theorem dX11_init_59 : decode cX11_init 59 = .ok (.getfield 32, 3) := by decide +kernel
theorem dX11_init_62 : decode cX11_init 62 = .ok (.invokespecial 38, 3) := by decide +kernel
theorem dX11_init_65 : decode cX11_init 65 = .ok (.putfield 41, 3) := by decide +kernel
theorem dX11_init_68 : decode cX11_init 68 = .ok (.aload_n 0, 1) := by decide +kernel
theorem dX11_init_69 : decode cX11_init 69 = .ok (.new 45, 3) := by decide +kernel
theorem dX11_init_72 : decode cX11_init 72 = .ok (.dup, 1) := by decide +kernel
theorem dX11_init_73 : decode cX11_init 73 = .ok (.aload_n 0, 1) := by decide +kernel
theorem dX11_init_74 : decode cX11_init 74 = .ok (.getfield 32, 3) := by decide +kernel
theorem dX11_init_77 : decode cX11_init 77 = .ok (.invokespecial 47, 3) := by decide +kernel
theorem dX11_init_80 : decode cX11_init 80 = .ok (.putfield 48, 3) := by decide +kernel
theorem dX11_init_83 : decode cX11_init 83 = .ok (.aload_n 0, 1) := by decide +kernel
theorem dX11_init_84 : decode cX11_init 84 = .ok (.new 52, 3) := by decide +kernel
theorem dX11_init_87 : decode cX11_init 87 = .ok (.dup, 1) := by decide +kernel
theorem dX11_init_88 : decode cX11_init 88 = .ok (.invokespecial 54, 3) := by decide +kernel
theorem dX11_init_91 : decode cX11_init 91 = .ok (.putfield 55, 3) := by decide +kernel
theorem dX11_init_94 : decode cX11_init 94 = .ok (.aload_n 0, 1) := by decide +kernel
theorem dX11_init_95 : decode cX11_init 95 = .ok (.new 52, 3) := by decide +kernel
theorem dX11_init_98 : decode cX11_init 98 = .ok (.dup, 1) := by decide +kernel
theorem dX11_init_99 : decode cX11_init 99 = .ok (.invokespecial 54, 3) := by decide +kernel
theorem dX11_init_102 : decode cX11_init 102 = .ok (.putfield 59, 3) := by decide +kernel
theorem dX11_init_105 : decode cX11_init 105 = .ok (.aload_n 0, 1) := by decide +kernel
theorem dX11_init_106 : decode cX11_init 106 = .ok (.new 62, 3) := by decide +kernel
theorem dX11_init_109 : decode cX11_init 109 = .ok (.dup, 1) := by decide +kernel
theorem dX11_init_110 : decode cX11_init 110 = .ok (.aload_n 0, 1) := by decide +kernel
theorem dX11_init_111 : decode cX11_init 111 = .ok (.getfield 32, 3) := by decide +kernel
theorem dX11_init_114 : decode cX11_init 114 = .ok (.aload_n 0, 1) := by decide +kernel
theorem dX11_init_115 : decode cX11_init 115 = .ok (.getfield 59, 3) := by decide +kernel
theorem dX11_init_118 : decode cX11_init 118 = .ok (.invokespecial 64, 3) := by decide +kernel
theorem dX11_init_121 : decode cX11_init 121 = .ok (.putfield 67, 3) := by decide +kernel
theorem dX11_init_124 : decode cX11_init 124 = .ok (.aload_n 0, 1) := by decide +kernel
theorem dX11_init_125 : decode cX11_init 125 = .ok (.new 71, 3) := by decide +kernel
theorem dX11_init_128 : decode cX11_init 128 = .ok (.dup, 1) := by decide +kernel
theorem dX11_init_129 : decode cX11_init 129 = .ok (.aload_n 0, 1) := by decide +kernel
theorem dX11_init_130 : decode cX11_init 130 = .ok (.getfield 59, 3) := by decide +kernel
theorem dX11_init_133 : decode cX11_init 133 = .ok (.invokespecial 73, 3) := by decide +kernel
theorem dX11_init_136 : decode cX11_init 136 = .ok (.putfield 76, 3) := by decide +kernel
theorem dX11_init_139 : decode cX11_init 139 = .ok (.aload_n 0, 1) := by decide +kernel
theorem dX11_init_140 : decode cX11_init 140 = .ok (.new 80, 3) := by decide +kernel
theorem dX11_init_143 : decode cX11_init 143 = .ok (.dup, 1) := by decide +kernel
theorem dX11_init_144 : decode cX11_init 144 = .ok (.invokespecial 82, 3) := by decide +kernel
theorem dX11_init_147 : decode cX11_init 147 = .ok (.putfield 83, 3) := by decide +kernel
theorem dX11_init_150 : decode cX11_init 150 = .ok (.aload_n 0, 1) := by decide +kernel
theorem dX11_init_151 : decode cX11_init 151 = .ok (.new 87, 3) := by decide +kernel
theorem dX11_init_154 : decode cX11_init 154 = .ok (.dup, 1) := by decide +kernel
theorem dX11_init_155 : decode cX11_init 155 = .ok (.invokespecial 89, 3) := by decide +kernel
theorem dX11_init_158 : decode cX11_init 158 = .ok (.putfield 90, 3) := by decide +kernel
theorem dX11_init_161 : decode cX11_init 161 = .ok (.aload_n 0, 1) := by decide +kernel
theorem dX11_init_162 : decode cX11_init 162 = .ok (.new 94, 3) := by decide +kernel
theorem dX11_init_165 : decode cX11_init 165 = .ok (.dup, 1) := by decide +kernel
theorem dX11_init_166 : decode cX11_init 166 = .ok (.invokespecial 96, 3) := by decide +kernel
theorem dX11_init_169 : decode cX11_init 169 = .ok (.putfield 97, 3) := by decide +kernel
theorem dX11_init_172 : decode cX11_init 172 = .ok (.return_, 1) := by decide +kernel
def t_0 (σ : Hp) : Hp := (pR (t_63 (nO (pR (t_56 (nO (pR (t_50 (nO (pR (t_44 (nO (pR (t_39 (nO (pR (t_30 (nO (pR (t_21 (nO (pR (t_17 (nO (pR (t_15 (nO (pR (t_3 (nO (pI (pI (pI (pR (nA (pI (pR (nA σ 1) 0 0 (some 1)) 0 1 0) 2) 0 2 (some 2)) 0 3 0) 0 4 (-1)) 0 5 (-1)) 3)) 0 6 (some 3)) 15)) 0 7 (some 15)) 17)) 0 8 (some 17)) 21)) 0 9 (some 21)) 30)) 0 10 (some 30)) 39)) 0 11 (some 39)) 44)) 0 12 (some 44)) 50)) 0 13 (some 50)) 56)) 0 14 (some 56)) 63)) 0 15 (some 63))
set_option maxRecDepth 100000 in
theorem c_0 (σ : Hp) : Cx yX11_init cX11_init 1 none 3 1 66 [.ref 0] σ (fun o τ => o = .inl none ∧ τ = t_0 σ) := by
  refine Cx_of RX11 true (by decide) rfl (fun _ => rfl) (Nat.le_of_ble_eq_true rfl) rfl (Nat.le_of_ble_eq_true rfl) ?_
  refine Wx_aload0 dX11_init_0 ?_
  refine Wx_objInit ob_X11 ob_im ob_co dX11_init_1 (Nat.le_of_ble_eq_true rfl) (Nat.le_of_ble_eq_true rfl) ?_
  refine Wx_aload0 dX11_init_4 ?_
  refine Wx_sipush (v := 4000) dX11_init_5 (by decide) ?_
  refine Wx_newa 0 4000 dX11_init_8 rfl (by decide) ac_byte rfl (by decide) (by decide) (by decide) (Nat.le_of_ble_eq_true rfl) ?_
  refine Wx_putRF 11 0 dX11_init_10 f_X11_9 rfl (Nat.le_of_ble_eq_true rfl) rfl rfl rfl rfl ⟨_, _, _, rfl, gwt_3 38 rfl rfl⟩ ?_
  refine Wx_aload0 dX11_init_13 ?_
  refine Wx_iconst (v := 0) dX11_init_14 (by decide) ?_
  refine Wx_putI 11 1 dX11_init_15 f_X11_13 rfl (Nat.le_of_ble_eq_true rfl) rfl rfl ?_
  refine Wx_aload0 dX11_init_18 ?_
  refine Wx_sipush (v := 4000) dX11_init_19 (by decide) ?_
  refine Wx_newa 0 4000 dX11_init_22 rfl (by decide) ac_byte rfl (by decide) (by decide) (by decide) (Nat.le_of_ble_eq_true rfl) ?_
  refine Wx_putRF 11 2 dX11_init_24 f_X11_17 rfl (Nat.le_of_ble_eq_true rfl) rfl rfl rfl rfl ⟨_, _, _, rfl, gwt_3 40 rfl rfl⟩ ?_
  refine Wx_aload0 dX11_init_27 ?_
  refine Wx_iconst (v := 0) dX11_init_28 (by decide) ?_
  refine Wx_putI 11 3 dX11_init_29 f_X11_20 rfl (Nat.le_of_ble_eq_true rfl) rfl rfl ?_
  refine Wx_aload0 dX11_init_32 ?_
  refine Wx_iconst (v := (-1)) dX11_init_33 (by decide) ?_
  refine Wx_putI 11 4 dX11_init_34 f_X11_23 rfl (Nat.le_of_ble_eq_true rfl) rfl rfl ?_
  refine Wx_aload0 dX11_init_37 ?_
  refine Wx_iconst (v := (-1)) dX11_init_38 (by decide) ?_
  refine Wx_putI 11 5 dX11_init_39 f_X11_26 rfl (Nat.le_of_ble_eq_true rfl) rfl rfl ?_
  refine Wx_aload0 dX11_init_42 ?_
  refine Wx_new 10 dX11_init_43 rfl cl_X11_29 in_X10 it_X10 rfl (Nat.le_of_ble_eq_true rfl) (by decide) ?_
  refine Wx_dup dX11_init_46 rfl ?_
  refine Wx_ctor 3 [] 0 m_X10_init l_X11_31 im_X10_init rfl dX11_init_47 (c_3 _) (Nat.le_of_ble_eq_true rfl) (Nat.le_of_ble_eq_true rfl) (Nat.le_of_ble_eq_true rfl) rfl (Nat.le_of_ble_eq_true rfl) rfl ?_
  refine Wx_putRF 11 6 dX11_init_50 f_X11_32 rfl (Nat.le_of_ble_eq_true rfl) rfl rfl rfl rfl ⟨_, _, _, rfl, gwt_3 44 rfl rfl⟩ ?_
  refine Wx_aload0 dX11_init_53 ?_
  refine Wx_new 9 dX11_init_54 rfl cl_X11_36 in_X9 it_X9 rfl (Nat.le_of_ble_eq_true rfl) (by decide) ?_
  refine Wx_dup dX11_init_57 rfl ?_
  refine Wx_aload0 dX11_init_58 ?_
  refine Wx_getR 11 6 3 dX11_init_59 f_X11_32 rfl (Nat.le_of_ble_eq_true rfl) rfl rfl ?_
  refine Wx_ctor 15 [.ref 3] 1 m_X9_init l_X11_38 im_X9_init rfl dX11_init_62 (c_15 _) (Nat.le_of_ble_eq_true rfl) (Nat.le_of_ble_eq_true rfl) (Nat.le_of_ble_eq_true rfl) rfl (Nat.le_of_ble_eq_true rfl) rfl ?_
  refine Wx_putRF 11 7 dX11_init_65 f_X11_41 rfl (Nat.le_of_ble_eq_true rfl) rfl rfl rfl rfl ⟨_, _, _, rfl, gwt_3 45 rfl rfl⟩ ?_
  refine Wx_aload0 dX11_init_68 ?_
  refine Wx_new 5 dX11_init_69 rfl cl_X11_45 in_X5 it_X5 rfl (Nat.le_of_ble_eq_true rfl) (by decide) ?_
  refine Wx_dup dX11_init_72 rfl ?_
  refine Wx_aload0 dX11_init_73 ?_
  refine Wx_getR 11 6 3 dX11_init_74 f_X11_32 rfl (Nat.le_of_ble_eq_true rfl) rfl rfl ?_
  refine Wx_ctor 17 [.ref 3] 1 m_X5_init l_X11_47 im_X5_init rfl dX11_init_77 (c_17 _) (Nat.le_of_ble_eq_true rfl) (Nat.le_of_ble_eq_true rfl) (Nat.le_of_ble_eq_true rfl) rfl (Nat.le_of_ble_eq_true rfl) rfl ?_
  refine Wx_putRF 11 8 dX11_init_80 f_X11_48 rfl (Nat.le_of_ble_eq_true rfl) rfl rfl rfl rfl ⟨_, _, _, rfl, gwt_3 46 rfl rfl⟩ ?_
  refine Wx_aload0 dX11_init_83 ?_
  refine Wx_new 8 dX11_init_84 rfl cl_X11_52 in_X8 it_X8 rfl (Nat.le_of_ble_eq_true rfl) (by decide) ?_
  refine Wx_dup dX11_init_87 rfl ?_
  refine Wx_ctor 21 [] 0 m_X8_init l_X11_54 im_X8_init rfl dX11_init_88 (c_21 _) (Nat.le_of_ble_eq_true rfl) (Nat.le_of_ble_eq_true rfl) (Nat.le_of_ble_eq_true rfl) rfl (Nat.le_of_ble_eq_true rfl) rfl ?_
  refine Wx_putR 11 9 dX11_init_91 f_X11_55 rfl (Nat.le_of_ble_eq_true rfl) rfl rfl ?_
  refine Wx_aload0 dX11_init_94 ?_
  refine Wx_new 8 dX11_init_95 rfl cl_X11_52 in_X8 it_X8 rfl (Nat.le_of_ble_eq_true rfl) (by decide) ?_
  refine Wx_dup dX11_init_98 rfl ?_
  refine Wx_ctor 30 [] 0 m_X8_init l_X11_54 im_X8_init rfl dX11_init_99 (c_30 _) (Nat.le_of_ble_eq_true rfl) (Nat.le_of_ble_eq_true rfl) (Nat.le_of_ble_eq_true rfl) rfl (Nat.le_of_ble_eq_true rfl) rfl ?_
  refine Wx_putR 11 10 dX11_init_102 f_X11_59 rfl (Nat.le_of_ble_eq_true rfl) rfl rfl ?_
  refine Wx_aload0 dX11_init_105 ?_
  refine Wx_new 3 dX11_init_106 rfl cl_X11_62 in_X3 it_X3 rfl (Nat.le_of_ble_eq_true rfl) (by decide) ?_
  refine Wx_dup dX11_init_109 rfl ?_
  refine Wx_aload0 dX11_init_110 ?_
  refine Wx_getR 11 6 3 dX11_init_111 f_X11_32 rfl (Nat.le_of_ble_eq_true rfl) rfl rfl ?_
  refine Wx_aload0 dX11_init_114 ?_
  refine Wx_getR 11 10 30 dX11_init_115 f_X11_59 rfl (Nat.le_of_ble_eq_true rfl) rfl rfl ?_
  refine Wx_ctor 39 [.ref 3, .ref 30] 2 m_X3_init l_X11_64 im_X3_init rfl dX11_init_118 (c_39 _) (Nat.le_of_ble_eq_true rfl) (Nat.le_of_ble_eq_true rfl) (Nat.le_of_ble_eq_true rfl) rfl (Nat.le_of_ble_eq_true rfl) rfl ?_
  refine Wx_putRF 11 11 dX11_init_121 f_X11_67 rfl (Nat.le_of_ble_eq_true rfl) rfl rfl rfl rfl ⟨_, _, _, rfl, gwt_3 49 rfl rfl⟩ ?_
  refine Wx_aload0 dX11_init_124 ?_
  refine Wx_new 1 dX11_init_125 rfl cl_X11_71 in_X1 it_X1 rfl (Nat.le_of_ble_eq_true rfl) (by decide) ?_
  refine Wx_dup dX11_init_128 rfl ?_
  refine Wx_aload0 dX11_init_129 ?_
  refine Wx_getR 11 10 30 dX11_init_130 f_X11_59 rfl (Nat.le_of_ble_eq_true rfl) rfl rfl ?_
  refine Wx_ctor 44 [.ref 30] 1 m_X1_init l_X11_73 im_X1_init rfl dX11_init_133 (c_44 _) (Nat.le_of_ble_eq_true rfl) (Nat.le_of_ble_eq_true rfl) (Nat.le_of_ble_eq_true rfl) rfl (Nat.le_of_ble_eq_true rfl) rfl ?_
  refine Wx_putRF 11 12 dX11_init_136 f_X11_76 rfl (Nat.le_of_ble_eq_true rfl) rfl rfl rfl rfl ⟨_, _, _, rfl, gwt_3 50 rfl rfl⟩ ?_
  refine Wx_aload0 dX11_init_139 ?_
  refine Wx_new 7 dX11_init_140 rfl cl_X11_80 in_X7 it_X7 rfl (Nat.le_of_ble_eq_true rfl) (by decide) ?_
  refine Wx_dup dX11_init_143 rfl ?_
  refine Wx_ctor 50 [] 0 m_X7_init l_X11_82 im_X7_init rfl dX11_init_144 (c_50 _) (Nat.le_of_ble_eq_true rfl) (Nat.le_of_ble_eq_true rfl) (Nat.le_of_ble_eq_true rfl) rfl (Nat.le_of_ble_eq_true rfl) rfl ?_
  refine Wx_putRF 11 13 dX11_init_147 f_X11_83 rfl (Nat.le_of_ble_eq_true rfl) rfl rfl rfl rfl ⟨_, _, _, rfl, gwt_3 51 rfl rfl⟩ ?_
  refine Wx_aload0 dX11_init_150 ?_
  refine Wx_new 2 dX11_init_151 rfl cl_X11_87 in_X2 it_X2 rfl (Nat.le_of_ble_eq_true rfl) (by decide) ?_
  refine Wx_dup dX11_init_154 rfl ?_
  refine Wx_ctor 56 [] 0 m_X2_init l_X11_89 im_X2_init rfl dX11_init_155 (c_56 _) (Nat.le_of_ble_eq_true rfl) (Nat.le_of_ble_eq_true rfl) (Nat.le_of_ble_eq_true rfl) rfl (Nat.le_of_ble_eq_true rfl) rfl ?_
  refine Wx_putRF 11 14 dX11_init_158 f_X11_90 rfl (Nat.le_of_ble_eq_true rfl) rfl rfl rfl rfl ⟨_, _, _, rfl, gwt_3 52 rfl rfl⟩ ?_
  refine Wx_aload0 dX11_init_161 ?_
  refine Wx_new 6 dX11_init_162 rfl cl_X11_94 in_X6 it_X6 rfl (Nat.le_of_ble_eq_true rfl) (by decide) ?_
  refine Wx_dup dX11_init_165 rfl ?_
  refine Wx_ctor 63 [] 0 m_X6_init l_X11_96 im_X6_init rfl dX11_init_166 (c_63 _) (Nat.le_of_ble_eq_true rfl) (Nat.le_of_ble_eq_true rfl) (Nat.le_of_ble_eq_true rfl) rfl (Nat.le_of_ble_eq_true rfl) rfl ?_
  refine Wx_putRF 11 15 dX11_init_169 f_X11_97 rfl (Nat.le_of_ble_eq_true rfl) rfl rfl rfl rfl ⟨_, _, _, rfl, gwt_3 53 rfl rfl⟩ ?_
  exact Wx_return dX11_init_172 rfl rfl ⟨rfl, rfl⟩

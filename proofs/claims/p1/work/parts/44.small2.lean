theorem dX7_goTo_0 : decode cX7_goTo 0 = .ok (.aload_n 0, 1) := by decide +kernel
theorem dX7_goTo_1 : decode cX7_goTo 1 = .ok (.ldc 33, 2) := by decide +kernel
theorem dX7_goTo_3 : decode cX7_goTo 3 = .ok (.iload_n 1, 1) := by decide +kernel
theorem dX7_goTo_4 : decode cX7_goTo 4 = .ok (.iadd, 1) := by decide +kernel
theorem dX7_goTo_5 : decode cX7_goTo 5 = .ok (.putfield 37, 3) := by decide +kernel
theorem dX7_goTo_8 : decode cX7_goTo 8 = .ok (.aload_n 0, 1) := by decide +kernel
theorem dX7_goTo_9 : decode cX7_goTo 9 = .ok (.iconst 0, 1) := by decide +kernel
theorem dX7_goTo_10 : decode cX7_goTo 10 = .ok (.putfield 40, 3) := by decide +kernel
theorem dX7_goTo_13 : decode cX7_goTo 13 = .ok (.return_, 1) := by decide +kernel
def t_goTo (σ : Hp) (a : Int32) : Hp := (pI (pI σ 50 5 (65536 + a)) 50 6 0)
theorem k_goTo (σ : Hp) (a : Int32) : (t_goTo σ a).2.1 = σ.2.1 := by
  unfold t_goTo
  simp only [apply_ite Prod.snd, apply_ite (Prod.fst (α := Nat → Nat → Option Nat) (β := (Nat → Nat → Int32) × (Nat → Nat → Int64))), R_pI, R_pI, R_pA, R_pL, R_rA, ite_self]
theorem w_goTo (d : Nat) (σ : Hp) (a : Int32) : Cx yX7_goTo cX7_goTo 2 none (d) 122 122 [.ref 50, .int a] σ (fun o τ => o = .inl none ∧ τ = t_goTo σ a) := by
  refine Cx_of RX7 false (by decide) rfl (fun q => by cases q) (Nat.le_refl _) rfl (Nat.le_of_ble_eq_true rfl) ?_
  refine Wx_aload0 dX7_goTo_0 ?_
  refine Wx_ldc dX7_goTo_1 k_X7_33 ?_
  refine Wx_iload1 dX7_goTo_3 ?_
  refine Wx_iadd dX7_goTo_4 ?_
  refine Wx_putI 7 5 dX7_goTo_5 f_X7_37 rfl (Nat.le_of_ble_eq_true rfl) rfl rfl ?_
  refine Wx_aload0 dX7_goTo_8 ?_
  refine Wx_iconst (v := 0) dX7_goTo_9 (by decide) ?_
  refine Wx_putI 7 6 dX7_goTo_10 f_X7_40 rfl (Nat.le_of_ble_eq_true rfl) rfl rfl ?_
  exact Wx_return dX7_goTo_13 rfl rfl (⟨rfl, by rw [t_goTo]⟩)
theorem dX11_begin_0 : decode cX11_begin 0 = .ok (.iload_n 1, 1) := by decide +kernel
theorem dX11_begin_1 : decode cX11_begin 1 = .ok (.ifCond .lt 9, 3) := by decide +kernel
theorem dX11_begin_4 : decode cX11_begin 4 = .ok (.iload_n 1, 1) := by decide +kernel
theorem dX11_begin_5 : decode cX11_begin 5 = .ok (.ldc 240, 2) := by decide +kernel
theorem dX11_begin_7 : decode cX11_begin 7 = .ok (.if_icmp .le 5, 3) := by decide +kernel
theorem dX11_begin_10 : decode cX11_begin 10 = .ok (.iconst 0, 1) := by decide +kernel
theorem dX11_begin_11 : decode cX11_begin 11 = .ok (.ireturn, 1) := by decide +kernel
theorem dX11_begin_12 : decode cX11_begin 12 = .ok (.aload_n 0, 1) := by decide +kernel
theorem dX11_begin_13 : decode cX11_begin 13 = .ok (.getfield 83, 3) := by decide +kernel
theorem dX11_begin_16 : decode cX11_begin 16 = .ok (.iload_n 1, 1) := by decide +kernel
theorem dX11_begin_17 : decode cX11_begin 17 = .ok (.invokevirtual 227, 3) := by decide +kernel
theorem dX11_begin_20 : decode cX11_begin 20 = .ok (.iconst 1, 1) := by decide +kernel
theorem dX11_begin_21 : decode cX11_begin 21 = .ok (.ireturn, 1) := by decide +kernel
def r_begin (σ : Hp) (a : Int32) : Int32 := (if a < 0 then 0 else (if a ≤ 65535 then 1 else 0))
def t_begin (σ : Hp) (a : Int32) : Hp := (if a < 0 then σ else (if a ≤ 65535 then (t_goTo σ (a)) else σ))
theorem k_begin (σ : Hp) (a : Int32) : (t_begin σ a).2.1 = σ.2.1 := by
  unfold t_begin
  simp only [apply_ite Prod.snd, apply_ite (Prod.fst (α := Nat → Nat → Option Nat) (β := (Nat → Nat → Int32) × (Nat → Nat → Int64))), k_goTo, R_pI, R_pA, R_pL, R_rA, ite_self]
theorem w_begin (d : Nat) (σ : Hp) (a : Int32) (hR : Rf σ) : Cx yX11_begin cX11_begin 2 (some .boolean) (d + 1) 122 122 [.ref 0, .int a] σ (fun o τ => o = .inl (some (.int (r_begin σ a))) ∧ τ = t_begin σ a) := by
  refine Cx_of RX11 false (by decide) rfl (fun q => by cases q) (Nat.le_refl _) rfl (Nat.le_of_ble_eq_true rfl) ?_
  refine Wx_iload1 dX11_begin_0 ?_
  refine Wx_if_lt 10 dX11_begin_1 (by decide) (fun h1 => ?_) (fun h1 => ?_)
  ·
    refine Wx_iconst (v := 0) dX11_begin_10 (by decide) ?_
    exact Wx_zreturn dX11_begin_11 rfl (by decide) rfl (⟨by rw [r_begin, if_pos h1], by rw [t_begin, if_pos h1]⟩)
  ·
    refine Wx_iload1 dX11_begin_4 ?_
    refine Wx_ldc dX11_begin_5 k_X11_240 ?_
    refine Wx_icmp_le 12 dX11_begin_7 (by decide) (fun h2 => ?_) (fun h2 => ?_)
    ·
      refine Wx_aload0 dX11_begin_12 ?_
      refine Wx_getR 11 13 50 dX11_begin_13 f_X11_83 rfl (Nat.le_of_ble_eq_true rfl) rfl (hR 0 13 50 (by decide)) ?_
      refine Wx_iload1 dX11_begin_16 ?_
      have c3 := (w_goTo (d + 0) σ (a))
      refine Wx_cVv 50 7 [.int a] 1 m_X7_goTo l_X11_227 i_X7_goTo rfl rfl (show 50 < 122 by decide) dX11_begin_17 c3 (show _ ≤ d + 1 from Nat.le_refl _) (Nat.le_refl _) rfl (Nat.le_of_ble_eq_true rfl) rfl ?_
      clear c3
      refine Wx_iconst (v := 1) dX11_begin_20 (by decide) ?_
      exact Wx_zreturn dX11_begin_21 rfl (by decide) rfl (⟨by rw [r_begin, if_neg h1, if_pos h2], by rw [t_begin, if_neg h1, if_pos h2]⟩)
    ·
      refine Wx_iconst (v := 0) dX11_begin_10 (by decide) ?_
      exact Wx_zreturn dX11_begin_11 rfl (by decide) rfl (⟨by rw [r_begin, if_neg h1, if_neg h2], by rw [t_begin, if_neg h1, if_neg h2]⟩)
theorem dX14_begin_0 : decode cX14_begin 0 = .ok (.iload_n 1, 1) := by decide +kernel
theorem dX14_begin_1 : decode cX14_begin 1 = .ok (.ifCond .lt 10, 3) := by decide +kernel
theorem dX14_begin_4 : decode cX14_begin 4 = .ok (.iload_n 1, 1) := by decide +kernel
theorem dX14_begin_5 : decode cX14_begin 5 = .ok (.ldc_w 423, 3) := by decide +kernel
theorem dX14_begin_8 : decode cX14_begin 8 = .ok (.if_icmp .le 5, 3) := by decide +kernel
theorem dX14_begin_11 : decode cX14_begin 11 = .ok (.iconst 0, 1) := by decide +kernel
theorem dX14_begin_12 : decode cX14_begin 12 = .ok (.ireturn, 1) := by decide +kernel
theorem dX14_begin_13 : decode cX14_begin 13 = .ok (.aload_n 0, 1) := by decide +kernel
theorem dX14_begin_14 : decode cX14_begin 14 = .ok (.ldc 121, 2) := by decide +kernel
theorem dX14_begin_16 : decode cX14_begin 16 = .ok (.iload_n 1, 1) := by decide +kernel
theorem dX14_begin_17 : decode cX14_begin 17 = .ok (.iadd, 1) := by decide +kernel
theorem dX14_begin_18 : decode cX14_begin 18 = .ok (.putfield 128, 3) := by decide +kernel
theorem dX14_begin_21 : decode cX14_begin 21 = .ok (.aload_n 0, 1) := by decide +kernel
theorem dX14_begin_22 : decode cX14_begin 22 = .ok (.iconst 0, 1) := by decide +kernel
theorem dX14_begin_23 : decode cX14_begin 23 = .ok (.putfield 693, 3) := by decide +kernel
theorem dX14_begin_26 : decode cX14_begin 26 = .ok (.iconst 1, 1) := by decide +kernel
theorem dX14_begin_27 : decode cX14_begin 27 = .ok (.ireturn, 1) := by decide +kernel
def r_beginM (σ : Hp) (a : Int32) : Int32 := (if a < 0 then 0 else (if a ≤ 65535 then 1 else 0))
def t_beginM (σ : Hp) (a : Int32) : Hp := (if a < 0 then σ else (if a ≤ 65535 then (pI (pI σ 66 54 (65536 + a)) 66 55 0) else σ))
theorem k_beginM (σ : Hp) (a : Int32) : (t_beginM σ a).2.1 = σ.2.1 := by
  unfold t_beginM
  simp only [apply_ite Prod.snd, apply_ite (Prod.fst (α := Nat → Nat → Option Nat) (β := (Nat → Nat → Int32) × (Nat → Nat → Int64))), R_pI, R_pI, R_pA, R_pL, R_rA, ite_self]
theorem w_beginM (d : Nat) (σ : Hp) (a : Int32) : Cx yX14_begin cX14_begin 2 (some .boolean) (d) 122 122 [.ref 66, .int a] σ (fun o τ => o = .inl (some (.int (r_beginM σ a))) ∧ τ = t_beginM σ a) := by
  refine Cx_of RX14 false (by decide) rfl (fun q => by cases q) (Nat.le_refl _) rfl (Nat.le_of_ble_eq_true rfl) ?_
  refine Wx_iload1 dX14_begin_0 ?_
  refine Wx_if_lt 11 dX14_begin_1 (by decide) (fun h1 => ?_) (fun h1 => ?_)
  ·
    refine Wx_iconst (v := 0) dX14_begin_11 (by decide) ?_
    exact Wx_zreturn dX14_begin_12 rfl (by decide) rfl (⟨by rw [r_beginM, if_pos h1], by rw [t_beginM, if_pos h1]⟩)
  ·
    refine Wx_iload1 dX14_begin_4 ?_
    refine Wx_ldcw dX14_begin_5 k_X14_423 ?_
    refine Wx_icmp_le 13 dX14_begin_8 (by decide) (fun h2 => ?_) (fun h2 => ?_)
    ·
      refine Wx_aload0 dX14_begin_13 ?_
      refine Wx_ldc dX14_begin_14 k_X14_121 ?_
      refine Wx_iload1 dX14_begin_16 ?_
      refine Wx_iadd dX14_begin_17 ?_
      refine Wx_putI 14 54 dX14_begin_18 f_X14_128 rfl (Nat.le_of_ble_eq_true rfl) rfl rfl ?_
      refine Wx_aload0 dX14_begin_21 ?_
      refine Wx_iconst (v := 0) dX14_begin_22 (by decide) ?_
      refine Wx_putI 14 55 dX14_begin_23 f_X14_693 rfl (Nat.le_of_ble_eq_true rfl) rfl rfl ?_
      refine Wx_iconst (v := 1) dX14_begin_26 (by decide) ?_
      exact Wx_zreturn dX14_begin_27 rfl (by decide) rfl (⟨by rw [r_beginM, if_neg h1, if_pos h2], by rw [t_beginM, if_neg h1, if_pos h2]⟩)
    ·
      refine Wx_iconst (v := 0) dX14_begin_11 (by decide) ?_
      exact Wx_zreturn dX14_begin_12 rfl (by decide) rfl (⟨by rw [r_beginM, if_neg h1, if_neg h2], by rw [t_beginM, if_neg h1, if_neg h2]⟩)
theorem dX11_addNumber_0 : decode cX11_addNumber 0 = .ok (.bipush 24, 2) := by decide +kernel
theorem dX11_addNumber_2 : decode cX11_addNumber 2 = .ok (.istore_n 2, 1) := by decide +kernel
theorem dX11_addNumber_3 : decode cX11_addNumber 3 = .ok (.iload_n 2, 1) := by decide +kernel
theorem dX11_addNumber_4 : decode cX11_addNumber 4 = .ok (.ifCond .lt 32, 3) := by decide +kernel
theorem dX11_addNumber_7 : decode cX11_addNumber 7 = .ok (.aload_n 0, 1) := by decide +kernel
theorem dX11_addNumber_8 : decode cX11_addNumber 8 = .ok (.getfield 9, 3) := by decide +kernel
theorem dX11_addNumber_11 : decode cX11_addNumber 11 = .ok (.aload_n 0, 1) := by decide +kernel
theorem dX11_addNumber_12 : decode cX11_addNumber 12 = .ok (.getfield 13, 3) := by decide +kernel
theorem dX11_addNumber_15 : decode cX11_addNumber 15 = .ok (.iload_n 1, 1) := by decide +kernel
theorem dX11_addNumber_16 : decode cX11_addNumber 16 = .ok (.iload_n 2, 1) := by decide +kernel
theorem dX11_addNumber_17 : decode cX11_addNumber 17 = .ok (.ishr, 1) := by decide +kernel
theorem dX11_addNumber_18 : decode cX11_addNumber 18 = .ok (.i2b, 1) := by decide +kernel
theorem dX11_addNumber_19 : decode cX11_addNumber 19 = .ok (.bastore, 1) := by decide +kernel
theorem dX11_addNumber_20 : decode cX11_addNumber 20 = .ok (.aload_n 0, 1) := by decide +kernel
theorem dX11_addNumber_21 : decode cX11_addNumber 21 = .ok (.dup, 1) := by decide +kernel
theorem dX11_addNumber_22 : decode cX11_addNumber 22 = .ok (.getfield 13, 3) := by decide +kernel
theorem dX11_addNumber_25 : decode cX11_addNumber 25 = .ok (.iconst 1, 1) := by decide +kernel
theorem dX11_addNumber_26 : decode cX11_addNumber 26 = .ok (.iadd, 1) := by decide +kernel
theorem dX11_addNumber_27 : decode cX11_addNumber 27 = .ok (.putfield 13, 3) := by decide +kernel
theorem dX11_addNumber_30 : decode cX11_addNumber 30 = .ok (.iinc 2 (-8), 3) := by decide +kernel
theorem dX11_addNumber_33 : decode cX11_addNumber 33 = .ok (.goto (-30), 3) := by decide +kernel
theorem dX11_addNumber_36 : decode cX11_addNumber 36 = .ok (.return_, 1) := by decide +kernel
def t_addNum (σ : Hp) (v : Int32) (t : Nat) : Hp := (pI (pA (pI (pA (pI (pA (pI (pA σ 1 t ((((v : Int32) >>> ((24 : Int32) &&& 31))).toInt8.toInt32 : Int32).toInt8.toInt32) 0 1 (nI (t + 1))) 1 (t + 1) ((((v : Int32) >>> ((16 : Int32) &&& 31))).toInt8.toInt32 : Int32).toInt8.toInt32) 0 1 (nI (t + 2))) 1 (t + 2) ((((v : Int32) >>> ((8 : Int32) &&& 31))).toInt8.toInt32 : Int32).toInt8.toInt32) 0 1 (nI (t + 3))) 1 (t + 3) ((((v : Int32) >>> ((0 : Int32) &&& 31))).toInt8.toInt32 : Int32).toInt8.toInt32) 0 1 (nI (t + 4)))
theorem k_addNum (σ : Hp) (v : Int32) (t : Nat) : (t_addNum σ v t).2.1 = σ.2.1 := by
  unfold t_addNum
  simp only [apply_ite Prod.snd, apply_ite (Prod.fst (α := Nat → Nat → Option Nat) (β := (Nat → Nat → Int32) × (Nat → Nat → Int64))), R_pI, R_pI, R_pA, R_pL, R_rA, ite_self]
theorem w_addNum (d : Nat) (σ : Hp) (v : Int32) (t : Nat) (hR : Rf σ) (ht : t + 20 ≤ 4000) (et : gI σ 0 1 = nI t) : Cx yX11_addNumber cX11_addNumber 3 none (d) 122 122 [.ref 0, .int v] σ (fun o τ => o = .inl none ∧ τ = t_addNum σ v t) := by
  refine Cx_of RX11 false (by decide) rfl (fun q => by cases q) (Nat.le_refl _) rfl (Nat.le_of_ble_eq_true rfl) ?_
  refine Wx_bipush (v := 24) dX11_addNumber_0 (by decide) ?_
  refine Wx_istore2 dX11_addNumber_2 rfl (Nat.le_of_ble_eq_true rfl) ?_
  refine Wx_iload2 dX11_addNumber_3 ?_
  refine Wx_if_lt 36 dX11_addNumber_4 (by decide) (fun h => absurd h (by decide)) (fun _ => ?_)
  refine Wx_aload0 dX11_addNumber_7 ?_
  refine Wx_getR 11 0 1 dX11_addNumber_8 f_X11_9 rfl (Nat.le_of_ble_eq_true rfl) rfl (hR 0 0 1 (by decide)) ?_
  refine Wx_aload0 dX11_addNumber_11 ?_
  refine Wx_getI 11 1 dX11_addNumber_12 f_X11_13 rfl (Nat.le_of_ble_eq_true rfl) rfl ?_
  rw [show gI σ 0 1 = (nI t) from et]
  refine Wx_iload1 dX11_addNumber_15 ?_
  refine Wx_iload2 dX11_addNumber_16 ?_
  refine Wx_ishr dX11_addNumber_17 ?_
  refine Wx_i2b dX11_addNumber_18 ?_
  refine Wx_bastore 4000 dX11_addNumber_19 rfl (Nat.le_of_ble_eq_true rfl) (vp_in_nI (show t < 4000 by omega) (by decide)) ?_
  rw [show ((nI t) : Int32).toNatClampNeg = t from nI_clamp (by omega)]
  refine Wx_aload0 dX11_addNumber_20 ?_
  refine Wx_dup dX11_addNumber_21 rfl ?_
  refine Wx_getI 11 1 dX11_addNumber_22 f_X11_13 rfl (Nat.le_of_ble_eq_true rfl) rfl ?_
  rw [show gI (pA σ 1 t ((((v : Int32) >>> ((24 : Int32) &&& 31))).toInt8.toInt32 : Int32).toInt8.toInt32) 0 1 = (nI t) from (gI_pA.trans et)]
  refine Wx_iconst (v := 1) dX11_addNumber_25 (by decide) ?_
  refine Wx_iadd dX11_addNumber_26 ?_
  rw [show (((nI t) + 1) : Int32) = nI (t + 1) from addE (a := t) (b := 1) rfl rfl (by omega)]
  refine Wx_putI 11 1 dX11_addNumber_27 f_X11_13 rfl (Nat.le_of_ble_eq_true rfl) rfl rfl ?_
  refine Wx_iinc2 dX11_addNumber_30 rfl (Nat.le_of_ble_eq_true rfl) ?_
  rw [show ((24 : Int32) + Int32.ofInt (-8)) = 16 from by decide]
  refine Wx_goto 3 dX11_addNumber_33 (by decide) ?_
  refine Wx_iload2 dX11_addNumber_3 ?_
  refine Wx_if_lt 36 dX11_addNumber_4 (by decide) (fun h => absurd h (by decide)) (fun _ => ?_)
  refine Wx_aload0 dX11_addNumber_7 ?_
  refine Wx_getR 11 0 1 dX11_addNumber_8 f_X11_9 rfl (Nat.le_of_ble_eq_true rfl) rfl ((Rf_pI (Rf_pA hR)) 0 0 1 (by decide)) ?_
  refine Wx_aload0 dX11_addNumber_11 ?_
  refine Wx_getI 11 1 dX11_addNumber_12 f_X11_13 rfl (Nat.le_of_ble_eq_true rfl) rfl ?_
  rw [show gI (pI (pA σ 1 t ((((v : Int32) >>> ((24 : Int32) &&& 31))).toInt8.toInt32 : Int32).toInt8.toInt32) 0 1 (nI (t + 1))) 0 1 = (nI (t + 1)) from gI_pIs]
  refine Wx_iload1 dX11_addNumber_15 ?_
  refine Wx_iload2 dX11_addNumber_16 ?_
  refine Wx_ishr dX11_addNumber_17 ?_
  refine Wx_i2b dX11_addNumber_18 ?_
  refine Wx_bastore 4000 dX11_addNumber_19 rfl (Nat.le_of_ble_eq_true rfl) (vp_in_nI (show (t + 1) < 4000 by omega) (by decide)) ?_
  rw [show ((nI (t + 1)) : Int32).toNatClampNeg = (t + 1) from nI_clamp (by omega)]
  refine Wx_aload0 dX11_addNumber_20 ?_
  refine Wx_dup dX11_addNumber_21 rfl ?_
  refine Wx_getI 11 1 dX11_addNumber_22 f_X11_13 rfl (Nat.le_of_ble_eq_true rfl) rfl ?_
  rw [show gI (pA (pI (pA σ 1 t ((((v : Int32) >>> ((24 : Int32) &&& 31))).toInt8.toInt32 : Int32).toInt8.toInt32) 0 1 (nI (t + 1))) 1 (t + 1) ((((v : Int32) >>> ((16 : Int32) &&& 31))).toInt8.toInt32 : Int32).toInt8.toInt32) 0 1 = (nI (t + 1)) from (gI_pA.trans gI_pIs)]
  refine Wx_iconst (v := 1) dX11_addNumber_25 (by decide) ?_
  refine Wx_iadd dX11_addNumber_26 ?_
  rw [show (((nI (t + 1)) + 1) : Int32) = nI (t + 2) from addE (a := (t + 1)) (b := 1) rfl rfl (by omega)]
  refine Wx_putI 11 1 dX11_addNumber_27 f_X11_13 rfl (Nat.le_of_ble_eq_true rfl) rfl rfl ?_
  refine Wx_iinc2 dX11_addNumber_30 rfl (Nat.le_of_ble_eq_true rfl) ?_
  rw [show ((16 : Int32) + Int32.ofInt (-8)) = 8 from by decide]
  refine Wx_goto 3 dX11_addNumber_33 (by decide) ?_
  refine Wx_iload2 dX11_addNumber_3 ?_
  refine Wx_if_lt 36 dX11_addNumber_4 (by decide) (fun h => absurd h (by decide)) (fun _ => ?_)
  refine Wx_aload0 dX11_addNumber_7 ?_
  refine Wx_getR 11 0 1 dX11_addNumber_8 f_X11_9 rfl (Nat.le_of_ble_eq_true rfl) rfl ((Rf_pI (Rf_pA (Rf_pI (Rf_pA hR)))) 0 0 1 (by decide)) ?_
  refine Wx_aload0 dX11_addNumber_11 ?_
  refine Wx_getI 11 1 dX11_addNumber_12 f_X11_13 rfl (Nat.le_of_ble_eq_true rfl) rfl ?_
  rw [show gI (pI (pA (pI (pA σ 1 t ((((v : Int32) >>> ((24 : Int32) &&& 31))).toInt8.toInt32 : Int32).toInt8.toInt32) 0 1 (nI (t + 1))) 1 (t + 1) ((((v : Int32) >>> ((16 : Int32) &&& 31))).toInt8.toInt32 : Int32).toInt8.toInt32) 0 1 (nI (t + 2))) 0 1 = (nI (t + 2)) from gI_pIs]
  refine Wx_iload1 dX11_addNumber_15 ?_
  refine Wx_iload2 dX11_addNumber_16 ?_
  refine Wx_ishr dX11_addNumber_17 ?_
  refine Wx_i2b dX11_addNumber_18 ?_
  refine Wx_bastore 4000 dX11_addNumber_19 rfl (Nat.le_of_ble_eq_true rfl) (vp_in_nI (show (t + 2) < 4000 by omega) (by decide)) ?_
  rw [show ((nI (t + 2)) : Int32).toNatClampNeg = (t + 2) from nI_clamp (by omega)]
  refine Wx_aload0 dX11_addNumber_20 ?_
  refine Wx_dup dX11_addNumber_21 rfl ?_
  refine Wx_getI 11 1 dX11_addNumber_22 f_X11_13 rfl (Nat.le_of_ble_eq_true rfl) rfl ?_
  rw [show gI (pA (pI (pA (pI (pA σ 1 t ((((v : Int32) >>> ((24 : Int32) &&& 31))).toInt8.toInt32 : Int32).toInt8.toInt32) 0 1 (nI (t + 1))) 1 (t + 1) ((((v : Int32) >>> ((16 : Int32) &&& 31))).toInt8.toInt32 : Int32).toInt8.toInt32) 0 1 (nI (t + 2))) 1 (t + 2) ((((v : Int32) >>> ((8 : Int32) &&& 31))).toInt8.toInt32 : Int32).toInt8.toInt32) 0 1 = (nI (t + 2)) from (gI_pA.trans gI_pIs)]
  refine Wx_iconst (v := 1) dX11_addNumber_25 (by decide) ?_
  refine Wx_iadd dX11_addNumber_26 ?_
  rw [show (((nI (t + 2)) + 1) : Int32) = nI (t + 3) from addE (a := (t + 2)) (b := 1) rfl rfl (by omega)]
  refine Wx_putI 11 1 dX11_addNumber_27 f_X11_13 rfl (Nat.le_of_ble_eq_true rfl) rfl rfl ?_
  refine Wx_iinc2 dX11_addNumber_30 rfl (Nat.le_of_ble_eq_true rfl) ?_
  rw [show ((8 : Int32) + Int32.ofInt (-8)) = 0 from by decide]
  refine Wx_goto 3 dX11_addNumber_33 (by decide) ?_
  refine Wx_iload2 dX11_addNumber_3 ?_
  refine Wx_if_lt 36 dX11_addNumber_4 (by decide) (fun h => absurd h (by decide)) (fun _ => ?_)
  refine Wx_aload0 dX11_addNumber_7 ?_
  refine Wx_getR 11 0 1 dX11_addNumber_8 f_X11_9 rfl (Nat.le_of_ble_eq_true rfl) rfl ((Rf_pI (Rf_pA (Rf_pI (Rf_pA (Rf_pI (Rf_pA hR)))))) 0 0 1 (by decide)) ?_
  refine Wx_aload0 dX11_addNumber_11 ?_
  refine Wx_getI 11 1 dX11_addNumber_12 f_X11_13 rfl (Nat.le_of_ble_eq_true rfl) rfl ?_
  rw [show gI (pI (pA (pI (pA (pI (pA σ 1 t ((((v : Int32) >>> ((24 : Int32) &&& 31))).toInt8.toInt32 : Int32).toInt8.toInt32) 0 1 (nI (t + 1))) 1 (t + 1) ((((v : Int32) >>> ((16 : Int32) &&& 31))).toInt8.toInt32 : Int32).toInt8.toInt32) 0 1 (nI (t + 2))) 1 (t + 2) ((((v : Int32) >>> ((8 : Int32) &&& 31))).toInt8.toInt32 : Int32).toInt8.toInt32) 0 1 (nI (t + 3))) 0 1 = (nI (t + 3)) from gI_pIs]
  refine Wx_iload1 dX11_addNumber_15 ?_
  refine Wx_iload2 dX11_addNumber_16 ?_
  refine Wx_ishr dX11_addNumber_17 ?_
  refine Wx_i2b dX11_addNumber_18 ?_
  refine Wx_bastore 4000 dX11_addNumber_19 rfl (Nat.le_of_ble_eq_true rfl) (vp_in_nI (show (t + 3) < 4000 by omega) (by decide)) ?_
  rw [show ((nI (t + 3)) : Int32).toNatClampNeg = (t + 3) from nI_clamp (by omega)]
  refine Wx_aload0 dX11_addNumber_20 ?_
  refine Wx_dup dX11_addNumber_21 rfl ?_
  refine Wx_getI 11 1 dX11_addNumber_22 f_X11_13 rfl (Nat.le_of_ble_eq_true rfl) rfl ?_
  rw [show gI (pA (pI (pA (pI (pA (pI (pA σ 1 t ((((v : Int32) >>> ((24 : Int32) &&& 31))).toInt8.toInt32 : Int32).toInt8.toInt32) 0 1 (nI (t + 1))) 1 (t + 1) ((((v : Int32) >>> ((16 : Int32) &&& 31))).toInt8.toInt32 : Int32).toInt8.toInt32) 0 1 (nI (t + 2))) 1 (t + 2) ((((v : Int32) >>> ((8 : Int32) &&& 31))).toInt8.toInt32 : Int32).toInt8.toInt32) 0 1 (nI (t + 3))) 1 (t + 3) ((((v : Int32) >>> ((0 : Int32) &&& 31))).toInt8.toInt32 : Int32).toInt8.toInt32) 0 1 = (nI (t + 3)) from (gI_pA.trans gI_pIs)]
  refine Wx_iconst (v := 1) dX11_addNumber_25 (by decide) ?_
  refine Wx_iadd dX11_addNumber_26 ?_
  rw [show (((nI (t + 3)) + 1) : Int32) = nI (t + 4) from addE (a := (t + 3)) (b := 1) rfl rfl (by omega)]
  refine Wx_putI 11 1 dX11_addNumber_27 f_X11_13 rfl (Nat.le_of_ble_eq_true rfl) rfl rfl ?_
  refine Wx_iinc2 dX11_addNumber_30 rfl (Nat.le_of_ble_eq_true rfl) ?_
  rw [show ((0 : Int32) + Int32.ofInt (-8)) = (-8) from by decide]
  refine Wx_goto 3 dX11_addNumber_33 (by decide) ?_
  refine Wx_iload2 dX11_addNumber_3 ?_
  refine Wx_if_lt 36 dX11_addNumber_4 (by decide) (fun _ => ?_) (fun h => absurd (by decide) h)
  exact Wx_return dX11_addNumber_36 rfl rfl (⟨rfl, by rw [t_addNum]⟩)
theorem f_addNum (σ : Hp) (v : Int32) (t : Nat) : gI (t_addNum σ v t) 0 1 = nI (t + 4) := gI_pIs
theorem dX11_feed_0 : decode cX11_feed 0 = .ok (.aload_n 0, 1) := by decide +kernel
theorem dX11_feed_1 : decode cX11_feed 1 = .ok (.getfield 13, 3) := by decide +kernel
theorem dX11_feed_4 : decode cX11_feed 4 = .ok (.sipush 3980, 3) := by decide +kernel
theorem dX11_feed_7 : decode cX11_feed 7 = .ok (.if_icmp .le 5, 3) := by decide +kernel
theorem dX11_feed_10 : decode cX11_feed 10 = .ok (.iconst (-1), 1) := by decide +kernel
theorem dX11_feed_11 : decode cX11_feed 11 = .ok (.ireturn, 1) := by decide +kernel
theorem dX11_feed_12 : decode cX11_feed 12 = .ok (.aload_n 0, 1) := by decide +kernel
theorem dX11_feed_13 : decode cX11_feed 13 = .ok (.iload_n 1, 1) := by decide +kernel
theorem dX11_feed_14 : decode cX11_feed 14 = .ok (.invokevirtual 101, 3) := by decide +kernel
theorem dX11_feed_17 : decode cX11_feed 17 = .ok (.aload_n 0, 1) := by decide +kernel
theorem dX11_feed_18 : decode cX11_feed 18 = .ok (.iload_n 2, 1) := by decide +kernel
theorem dX11_feed_19 : decode cX11_feed 19 = .ok (.invokevirtual 101, 3) := by decide +kernel
theorem dX11_feed_22 : decode cX11_feed 22 = .ok (.aload_n 0, 1) := by decide +kernel
theorem dX11_feed_23 : decode cX11_feed 23 = .ok (.iload_n 3, 1) := by decide +kernel
theorem dX11_feed_24 : decode cX11_feed 24 = .ok (.invokevirtual 101, 3) := by decide +kernel
theorem dX11_feed_27 : decode cX11_feed 27 = .ok (.aload_n 0, 1) := by decide +kernel
theorem dX11_feed_28 : decode cX11_feed 28 = .ok (.iload 4, 2) := by decide +kernel
theorem dX11_feed_30 : decode cX11_feed 30 = .ok (.invokevirtual 101, 3) := by decide +kernel
theorem dX11_feed_33 : decode cX11_feed 33 = .ok (.aload_n 0, 1) := by decide +kernel
theorem dX11_feed_34 : decode cX11_feed 34 = .ok (.iload 5, 2) := by decide +kernel
theorem dX11_feed_36 : decode cX11_feed 36 = .ok (.invokevirtual 101, 3) := by decide +kernel
theorem dX11_feed_39 : decode cX11_feed 39 = .ok (.aload_n 0, 1) := by decide +kernel
theorem dX11_feed_40 : decode cX11_feed 40 = .ok (.getfield 13, 3) := by decide +kernel
theorem dX11_feed_43 : decode cX11_feed 43 = .ok (.ireturn, 1) := by decide +kernel
def r_feed (σ : Hp) (a1 : Int32) (a2 : Int32) (a3 : Int32) (a4 : Int32) (a5 : Int32) (t : Nat) : Int32 := (if t ≤ 3980 then (nI (t + 20)) else (-1))
def t_feed (σ : Hp) (a1 : Int32) (a2 : Int32) (a3 : Int32) (a4 : Int32) (a5 : Int32) (t : Nat) : Hp := (if t ≤ 3980 then (t_addNum (t_addNum (t_addNum (t_addNum (t_addNum σ a1 t) a2 (t + 4)) a3 (t + 8)) a4 (t + 12)) a5 (t + 16)) else σ)
theorem k_feed (σ : Hp) (a1 : Int32) (a2 : Int32) (a3 : Int32) (a4 : Int32) (a5 : Int32) (t : Nat) : (t_feed σ a1 a2 a3 a4 a5 t).2.1 = σ.2.1 := by
  unfold t_feed
  simp only [apply_ite Prod.snd, apply_ite (Prod.fst (α := Nat → Nat → Option Nat) (β := (Nat → Nat → Int32) × (Nat → Nat → Int64))), k_addNum, R_pI, R_pA, R_pL, R_rA, ite_self]
theorem w_feed (d : Nat) (σ : Hp) (a1 : Int32) (a2 : Int32) (a3 : Int32) (a4 : Int32) (a5 : Int32) (t : Nat) (hR : Rf σ) (ht : t + 36 ≤ 4000) (et : gI σ 0 1 = nI t) : Cx yX11_feed cX11_feed 6 (some .int) (d + 1) 122 122 [.ref 0, .int a1, .int a2, .int a3, .int a4, .int a5] σ (fun o τ => o = .inl (some (.int (r_feed σ a1 a2 a3 a4 a5 t))) ∧ τ = t_feed σ a1 a2 a3 a4 a5 t) := by
  refine Cx_of RX11 false (by decide) rfl (fun q => by cases q) (Nat.le_refl _) rfl (Nat.le_of_ble_eq_true rfl) ?_
  refine Wx_aload0 dX11_feed_0 ?_
  refine Wx_getI 11 1 dX11_feed_1 f_X11_13 rfl (Nat.le_of_ble_eq_true rfl) rfl ?_
  rw [show gI σ 0 1 = (nI t) from et]
  refine Wx_sipush (v := 3980) dX11_feed_4 (by decide) ?_
  refine Wx_icmp_le 12 dX11_feed_7 (by decide) (fun h1 => ?_) (fun h1 => ?_)
  · replace h1 : t ≤ 3980 := (cLe (a := t) (b := 3980) rfl rfl (by omega) (by omega)).mp h1
    refine Wx_aload0 dX11_feed_12 ?_
    refine Wx_iload1 dX11_feed_13 ?_
    have c2 := (w_addNum d σ a1 t hR (by omega) et)
    refine Wx_cVv 0 11 [.int a1] 1 m_X11_addNumber l_X11_101 i_X11_addNumber rfl rfl (show 0 < 122 by decide) dX11_feed_14 c2 (show _ ≤ d + 1 from Nat.le_refl _) (Nat.le_refl _) rfl (Nat.le_of_ble_eq_true rfl) rfl ?_
    clear c2
    refine Wx_aload0 dX11_feed_17 ?_
    refine Wx_iload2 dX11_feed_18 ?_
    have c3 := (w_addNum d (t_addNum σ a1 t) a2 (t + 4) (Rf_of (k_addNum σ a1 t) hR) (by omega) (f_addNum σ a1 t))
    refine Wx_cVv 0 11 [.int a2] 1 m_X11_addNumber l_X11_101 i_X11_addNumber rfl rfl (show 0 < 122 by decide) dX11_feed_19 c3 (show _ ≤ d + 1 from Nat.le_refl _) (Nat.le_refl _) rfl (Nat.le_of_ble_eq_true rfl) rfl ?_
    clear c3
    refine Wx_aload0 dX11_feed_22 ?_
    refine Wx_iload3 dX11_feed_23 ?_
    have c4 := (w_addNum d (t_addNum (t_addNum σ a1 t) a2 (t + 4)) a3 (t + 8) (Rf_of (k_addNum (t_addNum σ a1 t) a2 (t + 4)) (Rf_of (k_addNum σ a1 t) hR)) (by omega) (f_addNum (t_addNum σ a1 t) a2 (t + 4)))
    refine Wx_cVv 0 11 [.int a3] 1 m_X11_addNumber l_X11_101 i_X11_addNumber rfl rfl (show 0 < 122 by decide) dX11_feed_24 c4 (show _ ≤ d + 1 from Nat.le_refl _) (Nat.le_refl _) rfl (Nat.le_of_ble_eq_true rfl) rfl ?_
    clear c4
    refine Wx_aload0 dX11_feed_27 ?_
    refine Wx_iload4 dX11_feed_28 ?_
    have c5 := (w_addNum d (t_addNum (t_addNum (t_addNum σ a1 t) a2 (t + 4)) a3 (t + 8)) a4 (t + 12) (Rf_of (k_addNum (t_addNum (t_addNum σ a1 t) a2 (t + 4)) a3 (t + 8)) (Rf_of (k_addNum (t_addNum σ a1 t) a2 (t + 4)) (Rf_of (k_addNum σ a1 t) hR))) (by omega) (f_addNum (t_addNum (t_addNum σ a1 t) a2 (t + 4)) a3 (t + 8)))
    refine Wx_cVv 0 11 [.int a4] 1 m_X11_addNumber l_X11_101 i_X11_addNumber rfl rfl (show 0 < 122 by decide) dX11_feed_30 c5 (show _ ≤ d + 1 from Nat.le_refl _) (Nat.le_refl _) rfl (Nat.le_of_ble_eq_true rfl) rfl ?_
    clear c5
    refine Wx_aload0 dX11_feed_33 ?_
    refine Wx_iload5 dX11_feed_34 ?_
    have c6 := (w_addNum d (t_addNum (t_addNum (t_addNum (t_addNum σ a1 t) a2 (t + 4)) a3 (t + 8)) a4 (t + 12)) a5 (t + 16) (Rf_of (k_addNum (t_addNum (t_addNum (t_addNum σ a1 t) a2 (t + 4)) a3 (t + 8)) a4 (t + 12)) (Rf_of (k_addNum (t_addNum (t_addNum σ a1 t) a2 (t + 4)) a3 (t + 8)) (Rf_of (k_addNum (t_addNum σ a1 t) a2 (t + 4)) (Rf_of (k_addNum σ a1 t) hR)))) (by omega) (f_addNum (t_addNum (t_addNum (t_addNum σ a1 t) a2 (t + 4)) a3 (t + 8)) a4 (t + 12)))
    refine Wx_cVv 0 11 [.int a5] 1 m_X11_addNumber l_X11_101 i_X11_addNumber rfl rfl (show 0 < 122 by decide) dX11_feed_36 c6 (show _ ≤ d + 1 from Nat.le_refl _) (Nat.le_refl _) rfl (Nat.le_of_ble_eq_true rfl) rfl ?_
    clear c6
    refine Wx_aload0 dX11_feed_39 ?_
    refine Wx_getI 11 1 dX11_feed_40 f_X11_13 rfl (Nat.le_of_ble_eq_true rfl) rfl ?_
    rw [show gI (t_addNum (t_addNum (t_addNum (t_addNum (t_addNum σ a1 t) a2 (t + 4)) a3 (t + 8)) a4 (t + 12)) a5 (t + 16)) 0 1 = (nI (t + 20)) from (f_addNum (t_addNum (t_addNum (t_addNum (t_addNum σ a1 t) a2 (t + 4)) a3 (t + 8)) a4 (t + 12)) a5 (t + 16))]
    exact Wx_ireturn dX11_feed_43 rfl rfl (⟨by rw [r_feed, if_pos h1], by rw [t_feed, if_pos h1]⟩)
  · replace h1 : ¬ t ≤ 3980 := fun q => h1 ((cLe (a := t) (b := 3980) rfl rfl (by omega) (by omega)).mpr q)
    refine Wx_iconst (v := (-1)) dX11_feed_10 (by decide) ?_
    exact Wx_ireturn dX11_feed_11 rfl rfl (⟨by rw [r_feed, if_neg h1], by rw [t_feed, if_neg h1]⟩)
theorem dX14_feed_0 : decode cX14_feed 0 = .ok (.aload_n 0, 1) := by decide +kernel
theorem dX14_feed_1 : decode cX14_feed 1 = .ok (.getfield 158, 3) := by decide +kernel
theorem dX14_feed_4 : decode cX14_feed 4 = .ok (.bipush 20, 2) := by decide +kernel
theorem dX14_feed_6 : decode cX14_feed 6 = .ok (.iadd, 1) := by decide +kernel
theorem dX14_feed_7 : decode cX14_feed 7 = .ok (.sipush 4000, 3) := by decide +kernel
theorem dX14_feed_10 : decode cX14_feed 10 = .ok (.if_icmp .le 5, 3) := by decide +kernel
theorem dX14_feed_13 : decode cX14_feed 13 = .ok (.iconst (-1), 1) := by decide +kernel
theorem dX14_feed_14 : decode cX14_feed 14 = .ok (.ireturn, 1) := by decide +kernel
theorem dX14_feed_15 : decode cX14_feed 15 = .ok (.iconst 0, 1) := by decide +kernel
theorem dX14_feed_16 : decode cX14_feed 16 = .ok (.istore 6, 2) := by decide +kernel
theorem dX14_feed_18 : decode cX14_feed 18 = .ok (.iload 6, 2) := by decide +kernel
theorem dX14_feed_20 : decode cX14_feed 20 = .ok (.bipush 20, 2) := by decide +kernel
theorem dX14_feed_22 : decode cX14_feed 22 = .ok (.if_icmp .ge 82, 3) := by decide +kernel
theorem dX14_feed_25 : decode cX14_feed 25 = .ok (.iload 6, 2) := by decide +kernel
theorem dX14_feed_27 : decode cX14_feed 27 = .ok (.iconst 4, 1) := by decide +kernel
theorem dX14_feed_28 : decode cX14_feed 28 = .ok (.if_icmp .ge 7, 3) := by decide +kernel
theorem dX14_feed_31 : decode cX14_feed 31 = .ok (.iload_n 1, 1) := by decide +kernel
theorem dX14_feed_32 : decode cX14_feed 32 = .ok (.goto 39, 3) := by decide +kernel
theorem dX14_feed_35 : decode cX14_feed 35 = .ok (.iload 6, 2) := by decide +kernel
theorem dX14_feed_37 : decode cX14_feed 37 = .ok (.bipush 8, 2) := by decide +kernel
theorem dX14_feed_39 : decode cX14_feed 39 = .ok (.if_icmp .ge 7, 3) := by decide +kernel
theorem dX14_feed_42 : decode cX14_feed 42 = .ok (.iload_n 2, 1) := by decide +kernel
theorem dX14_feed_43 : decode cX14_feed 43 = .ok (.goto 28, 3) := by decide +kernel
theorem dX14_feed_46 : decode cX14_feed 46 = .ok (.iload 6, 2) := by decide +kernel
theorem dX14_feed_48 : decode cX14_feed 48 = .ok (.bipush 12, 2) := by decide +kernel
theorem dX14_feed_50 : decode cX14_feed 50 = .ok (.if_icmp .ge 7, 3) := by decide +kernel
theorem dX14_feed_53 : decode cX14_feed 53 = .ok (.iload_n 3, 1) := by decide +kernel
theorem dX14_feed_54 : decode cX14_feed 54 = .ok (.goto 17, 3) := by decide +kernel
theorem dX14_feed_57 : decode cX14_feed 57 = .ok (.iload 6, 2) := by decide +kernel
theorem dX14_feed_59 : decode cX14_feed 59 = .ok (.bipush 16, 2) := by decide +kernel
theorem dX14_feed_61 : decode cX14_feed 61 = .ok (.if_icmp .ge 8, 3) := by decide +kernel
theorem dX14_feed_64 : decode cX14_feed 64 = .ok (.iload 4, 2) := by decide +kernel
theorem dX14_feed_66 : decode cX14_feed 66 = .ok (.goto 5, 3) := by decide +kernel
theorem dX14_feed_69 : decode cX14_feed 69 = .ok (.iload 5, 2) := by decide +kernel
theorem dX14_feed_71 : decode cX14_feed 71 = .ok (.istore 7, 2) := by decide +kernel
theorem dX14_feed_73 : decode cX14_feed 73 = .ok (.aload_n 0, 1) := by decide +kernel
theorem dX14_feed_74 : decode cX14_feed 74 = .ok (.getfield 16, 3) := by decide +kernel
theorem dX14_feed_77 : decode cX14_feed 77 = .ok (.aload_n 0, 1) := by decide +kernel
theorem dX14_feed_78 : decode cX14_feed 78 = .ok (.getfield 158, 3) := by decide +kernel
theorem dX14_feed_81 : decode cX14_feed 81 = .ok (.iload 6, 2) := by decide +kernel
theorem dX14_feed_83 : decode cX14_feed 83 = .ok (.iadd, 1) := by decide +kernel
theorem dX14_feed_84 : decode cX14_feed 84 = .ok (.iload 7, 2) := by decide +kernel
theorem dX14_feed_86 : decode cX14_feed 86 = .ok (.bipush 8, 2) := by decide +kernel
theorem dX14_feed_88 : decode cX14_feed 88 = .ok (.iconst 3, 1) := by decide +kernel
theorem dX14_feed_89 : decode cX14_feed 89 = .ok (.iload 6, 2) := by decide +kernel
theorem dX14_feed_91 : decode cX14_feed 91 = .ok (.iconst 4, 1) := by decide +kernel
theorem dX14_feed_92 : decode cX14_feed 92 = .ok (.irem, 1) := by decide +kernel
theorem dX14_feed_93 : decode cX14_feed 93 = .ok (.isub, 1) := by decide +kernel
theorem dX14_feed_94 : decode cX14_feed 94 = .ok (.imul, 1) := by decide +kernel
theorem dX14_feed_95 : decode cX14_feed 95 = .ok (.ishr, 1) := by decide +kernel
theorem dX14_feed_96 : decode cX14_feed 96 = .ok (.i2b, 1) := by decide +kernel
theorem dX14_feed_97 : decode cX14_feed 97 = .ok (.bastore, 1) := by decide +kernel
theorem dX14_feed_98 : decode cX14_feed 98 = .ok (.iinc 6 1, 3) := by decide +kernel
theorem dX14_feed_101 : decode cX14_feed 101 = .ok (.goto (-83), 3) := by decide +kernel
theorem dX14_feed_104 : decode cX14_feed 104 = .ok (.aload_n 0, 1) := by decide +kernel
theorem dX14_feed_105 : decode cX14_feed 105 = .ok (.dup, 1) := by decide +kernel
theorem dX14_feed_106 : decode cX14_feed 106 = .ok (.getfield 158, 3) := by decide +kernel
theorem dX14_feed_109 : decode cX14_feed 109 = .ok (.bipush 20, 2) := by decide +kernel
theorem dX14_feed_111 : decode cX14_feed 111 = .ok (.iadd, 1) := by decide +kernel
theorem dX14_feed_112 : decode cX14_feed 112 = .ok (.putfield 158, 3) := by decide +kernel
theorem dX14_feed_115 : decode cX14_feed 115 = .ok (.aload_n 0, 1) := by decide +kernel
theorem dX14_feed_116 : decode cX14_feed 116 = .ok (.getfield 158, 3) := by decide +kernel
theorem dX14_feed_119 : decode cX14_feed 119 = .ok (.ireturn, 1) := by decide +kernel
def r_feedM (σ : Hp) (a1 : Int32) (a2 : Int32) (a3 : Int32) (a4 : Int32) (a5 : Int32) (t : Nat) : Int32 := (if (t + 20) ≤ 4000 then (nI (t + 20)) else (-1))
def t_feedM (σ : Hp) (a1 : Int32) (a2 : Int32) (a3 : Int32) (a4 : Int32) (a5 : Int32) (t : Nat) : Hp := (if (t + 20) ≤ 4000 then (pI (pA (pA (pA (pA (pA (pA (pA (pA (pA (pA (pA (pA (pA (pA (pA (pA (pA (pA (pA (pA σ 68 t ((((a1 : Int32) >>> ((24 : Int32) &&& 31))).toInt8.toInt32 : Int32).toInt8.toInt32) 68 (t + 1) ((((a1 : Int32) >>> ((16 : Int32) &&& 31))).toInt8.toInt32 : Int32).toInt8.toInt32) 68 (t + 2) ((((a1 : Int32) >>> ((8 : Int32) &&& 31))).toInt8.toInt32 : Int32).toInt8.toInt32) 68 (t + 3) ((((a1 : Int32) >>> ((0 : Int32) &&& 31))).toInt8.toInt32 : Int32).toInt8.toInt32) 68 (t + 4) ((((a2 : Int32) >>> ((24 : Int32) &&& 31))).toInt8.toInt32 : Int32).toInt8.toInt32) 68 (t + 5) ((((a2 : Int32) >>> ((16 : Int32) &&& 31))).toInt8.toInt32 : Int32).toInt8.toInt32) 68 (t + 6) ((((a2 : Int32) >>> ((8 : Int32) &&& 31))).toInt8.toInt32 : Int32).toInt8.toInt32) 68 (t + 7) ((((a2 : Int32) >>> ((0 : Int32) &&& 31))).toInt8.toInt32 : Int32).toInt8.toInt32) 68 (t + 8) ((((a3 : Int32) >>> ((24 : Int32) &&& 31))).toInt8.toInt32 : Int32).toInt8.toInt32) 68 (t + 9) ((((a3 : Int32) >>> ((16 : Int32) &&& 31))).toInt8.toInt32 : Int32).toInt8.toInt32) 68 (t + 10) ((((a3 : Int32) >>> ((8 : Int32) &&& 31))).toInt8.toInt32 : Int32).toInt8.toInt32) 68 (t + 11) ((((a3 : Int32) >>> ((0 : Int32) &&& 31))).toInt8.toInt32 : Int32).toInt8.toInt32) 68 (t + 12) ((((a4 : Int32) >>> ((24 : Int32) &&& 31))).toInt8.toInt32 : Int32).toInt8.toInt32) 68 (t + 13) ((((a4 : Int32) >>> ((16 : Int32) &&& 31))).toInt8.toInt32 : Int32).toInt8.toInt32) 68 (t + 14) ((((a4 : Int32) >>> ((8 : Int32) &&& 31))).toInt8.toInt32 : Int32).toInt8.toInt32) 68 (t + 15) ((((a4 : Int32) >>> ((0 : Int32) &&& 31))).toInt8.toInt32 : Int32).toInt8.toInt32) 68 (t + 16) ((((a5 : Int32) >>> ((24 : Int32) &&& 31))).toInt8.toInt32 : Int32).toInt8.toInt32) 68 (t + 17) ((((a5 : Int32) >>> ((16 : Int32) &&& 31))).toInt8.toInt32 : Int32).toInt8.toInt32) 68 (t + 18) ((((a5 : Int32) >>> ((8 : Int32) &&& 31))).toInt8.toInt32 : Int32).toInt8.toInt32) 68 (t + 19) ((((a5 : Int32) >>> ((0 : Int32) &&& 31))).toInt8.toInt32 : Int32).toInt8.toInt32) 66 2 (nI (t + 20))) else σ)
theorem k_feedM (σ : Hp) (a1 : Int32) (a2 : Int32) (a3 : Int32) (a4 : Int32) (a5 : Int32) (t : Nat) : (t_feedM σ a1 a2 a3 a4 a5 t).2.1 = σ.2.1 := by
  unfold t_feedM
  simp only [apply_ite Prod.snd, apply_ite (Prod.fst (α := Nat → Nat → Option Nat) (β := (Nat → Nat → Int32) × (Nat → Nat → Int64))), R_pI, R_pI, R_pA, R_pL, R_rA, ite_self]
theorem w_feedM (d : Nat) (σ : Hp) (a1 : Int32) (a2 : Int32) (a3 : Int32) (a4 : Int32) (a5 : Int32) (t : Nat) (hR : Rf σ) (ht : t + 36 ≤ 4000) (et : gI σ 66 2 = nI t) : Cx yX14_feed cX14_feed 8 (some .int) (d) 122 122 [.ref 66, .int a1, .int a2, .int a3, .int a4, .int a5] σ (fun o τ => o = .inl (some (.int (r_feedM σ a1 a2 a3 a4 a5 t))) ∧ τ = t_feedM σ a1 a2 a3 a4 a5 t) := by
  refine Cx_of RX14 false (by decide) rfl (fun q => by cases q) (Nat.le_refl _) rfl (Nat.le_of_ble_eq_true rfl) ?_
  refine Wx_aload0 dX14_feed_0 ?_
  refine Wx_getI 14 2 dX14_feed_1 f_X14_158 rfl (Nat.le_of_ble_eq_true rfl) rfl ?_
  rw [show gI σ 66 2 = (nI t) from et]
  refine Wx_bipush (v := 20) dX14_feed_4 (by decide) ?_
  refine Wx_iadd dX14_feed_6 ?_
  rw [show (((nI t) + 20) : Int32) = nI (t + 20) from addE (a := t) (b := 20) rfl rfl (by omega)]
  refine Wx_sipush (v := 4000) dX14_feed_7 (by decide) ?_
  refine Wx_icmp_le 15 dX14_feed_10 (by decide) (fun h1 => ?_) (fun h1 => ?_)
  · replace h1 : (t + 20) ≤ 4000 := (cLe (a := (t + 20)) (b := 4000) rfl rfl (by omega) (by omega)).mp h1
    refine Wx_iconst (v := 0) dX14_feed_15 (by decide) ?_
    refine Wx_istore6 dX14_feed_16 rfl (Nat.le_of_ble_eq_true rfl) ?_
    refine Wx_iload6 dX14_feed_18 ?_
    refine Wx_bipush (v := 20) dX14_feed_20 (by decide) ?_
    refine Wx_icmp_ge 104 dX14_feed_22 (by decide) (fun h => absurd h (by decide)) (fun _ => ?_)
    refine Wx_iload6 dX14_feed_25 ?_
    refine Wx_iconst (v := 4) dX14_feed_27 (by decide) ?_
    refine Wx_icmp_ge 35 dX14_feed_28 (by decide) (fun h => absurd h (by decide)) (fun _ => ?_)
    refine Wx_iload1 dX14_feed_31 ?_
    refine Wx_goto 71 dX14_feed_32 (by decide) ?_
    refine Wx_istore7 dX14_feed_71 rfl (Nat.le_of_ble_eq_true rfl) ?_
    refine Wx_aload0 dX14_feed_73 ?_
    refine Wx_getR 14 1 68 dX14_feed_74 f_X14_16 rfl (Nat.le_of_ble_eq_true rfl) rfl (hR 66 1 68 (by decide)) ?_
    refine Wx_aload0 dX14_feed_77 ?_
    refine Wx_getI 14 2 dX14_feed_78 f_X14_158 rfl (Nat.le_of_ble_eq_true rfl) rfl ?_
    rw [show gI σ 66 2 = (nI t) from et]
    refine Wx_iload6 dX14_feed_81 ?_
    refine Wx_iadd dX14_feed_83 ?_
    rw [show (((nI t) + 0) : Int32) = nI t from addE (a := t) (b := 0) rfl rfl (by omega)]
    refine Wx_iload7 dX14_feed_84 ?_
    refine Wx_bipush (v := 8) dX14_feed_86 (by decide) ?_
    refine Wx_iconst (v := 3) dX14_feed_88 (by decide) ?_
    refine Wx_iload6 dX14_feed_89 ?_
    refine Wx_iconst (v := 4) dX14_feed_91 (by decide) ?_
    refine Wx_irem dX14_feed_92 (by decide) ?_
    rw [show ((0 - 0 / 4 * 4) : Int32) = 0 from by decide]
    refine Wx_isub dX14_feed_93 ?_
    rw [show ((3 - 0) : Int32) = 3 from by decide]
    refine Wx_imul dX14_feed_94 ?_
    rw [show ((8 * 3) : Int32) = 24 from by decide]
    refine Wx_ishr dX14_feed_95 ?_
    refine Wx_i2b dX14_feed_96 ?_
    refine Wx_bastore 4000 dX14_feed_97 rfl (Nat.le_of_ble_eq_true rfl) (vp_in_nI (show t < 4000 by omega) (by decide)) ?_
    rw [show ((nI t) : Int32).toNatClampNeg = t from nI_clamp (by omega)]
    refine Wx_iinc6 dX14_feed_98 rfl (Nat.le_of_ble_eq_true rfl) ?_
    rw [show ((0 : Int32) + Int32.ofInt 1) = 1 from by decide]
    refine Wx_goto 18 dX14_feed_101 (by decide) ?_
    refine Wx_iload6 dX14_feed_18 ?_
    refine Wx_bipush (v := 20) dX14_feed_20 (by decide) ?_
    refine Wx_icmp_ge 104 dX14_feed_22 (by decide) (fun h => absurd h (by decide)) (fun _ => ?_)
    refine Wx_iload6 dX14_feed_25 ?_
    refine Wx_iconst (v := 4) dX14_feed_27 (by decide) ?_
    refine Wx_icmp_ge 35 dX14_feed_28 (by decide) (fun h => absurd h (by decide)) (fun _ => ?_)
    refine Wx_iload1 dX14_feed_31 ?_
    refine Wx_goto 71 dX14_feed_32 (by decide) ?_
    refine Wx_istore7 dX14_feed_71 rfl (Nat.le_of_ble_eq_true rfl) ?_
    refine Wx_aload0 dX14_feed_73 ?_
    refine Wx_getR 14 1 68 dX14_feed_74 f_X14_16 rfl (Nat.le_of_ble_eq_true rfl) rfl ((Rf_pA hR) 66 1 68 (by decide)) ?_
    refine Wx_aload0 dX14_feed_77 ?_
    refine Wx_getI 14 2 dX14_feed_78 f_X14_158 rfl (Nat.le_of_ble_eq_true rfl) rfl ?_
    rw [show gI (pA σ 68 t ((((a1 : Int32) >>> ((24 : Int32) &&& 31))).toInt8.toInt32 : Int32).toInt8.toInt32) 66 2 = (nI t) from (gI_pA.trans et)]
    refine Wx_iload6 dX14_feed_81 ?_
    refine Wx_iadd dX14_feed_83 ?_
    rw [show (((nI t) + 1) : Int32) = nI (t + 1) from addE (a := t) (b := 1) rfl rfl (by omega)]
    refine Wx_iload7 dX14_feed_84 ?_
    refine Wx_bipush (v := 8) dX14_feed_86 (by decide) ?_
    refine Wx_iconst (v := 3) dX14_feed_88 (by decide) ?_
    refine Wx_iload6 dX14_feed_89 ?_
    refine Wx_iconst (v := 4) dX14_feed_91 (by decide) ?_
    refine Wx_irem dX14_feed_92 (by decide) ?_
    rw [show ((1 - 1 / 4 * 4) : Int32) = 1 from by decide]
    refine Wx_isub dX14_feed_93 ?_
    rw [show ((3 - 1) : Int32) = 2 from by decide]
    refine Wx_imul dX14_feed_94 ?_
    rw [show ((8 * 2) : Int32) = 16 from by decide]
    refine Wx_ishr dX14_feed_95 ?_
    refine Wx_i2b dX14_feed_96 ?_
    refine Wx_bastore 4000 dX14_feed_97 rfl (Nat.le_of_ble_eq_true rfl) (vp_in_nI (show (t + 1) < 4000 by omega) (by decide)) ?_
    rw [show ((nI (t + 1)) : Int32).toNatClampNeg = (t + 1) from nI_clamp (by omega)]
    refine Wx_iinc6 dX14_feed_98 rfl (Nat.le_of_ble_eq_true rfl) ?_
    rw [show ((1 : Int32) + Int32.ofInt 1) = 2 from by decide]
    refine Wx_goto 18 dX14_feed_101 (by decide) ?_
    refine Wx_iload6 dX14_feed_18 ?_
    refine Wx_bipush (v := 20) dX14_feed_20 (by decide) ?_
    refine Wx_icmp_ge 104 dX14_feed_22 (by decide) (fun h => absurd h (by decide)) (fun _ => ?_)
    refine Wx_iload6 dX14_feed_25 ?_
    refine Wx_iconst (v := 4) dX14_feed_27 (by decide) ?_
    refine Wx_icmp_ge 35 dX14_feed_28 (by decide) (fun h => absurd h (by decide)) (fun _ => ?_)
    refine Wx_iload1 dX14_feed_31 ?_
    refine Wx_goto 71 dX14_feed_32 (by decide) ?_
    refine Wx_istore7 dX14_feed_71 rfl (Nat.le_of_ble_eq_true rfl) ?_
    refine Wx_aload0 dX14_feed_73 ?_
    refine Wx_getR 14 1 68 dX14_feed_74 f_X14_16 rfl (Nat.le_of_ble_eq_true rfl) rfl ((Rf_pA (Rf_pA hR)) 66 1 68 (by decide)) ?_
    refine Wx_aload0 dX14_feed_77 ?_
    refine Wx_getI 14 2 dX14_feed_78 f_X14_158 rfl (Nat.le_of_ble_eq_true rfl) rfl ?_
    rw [show gI (pA (pA σ 68 t ((((a1 : Int32) >>> ((24 : Int32) &&& 31))).toInt8.toInt32 : Int32).toInt8.toInt32) 68 (t + 1) ((((a1 : Int32) >>> ((16 : Int32) &&& 31))).toInt8.toInt32 : Int32).toInt8.toInt32) 66 2 = (nI t) from (gI_pA.trans (gI_pA.trans et))]
    refine Wx_iload6 dX14_feed_81 ?_
    refine Wx_iadd dX14_feed_83 ?_
    rw [show (((nI t) + 2) : Int32) = nI (t + 2) from addE (a := t) (b := 2) rfl rfl (by omega)]
    refine Wx_iload7 dX14_feed_84 ?_
    refine Wx_bipush (v := 8) dX14_feed_86 (by decide) ?_
    refine Wx_iconst (v := 3) dX14_feed_88 (by decide) ?_
    refine Wx_iload6 dX14_feed_89 ?_
    refine Wx_iconst (v := 4) dX14_feed_91 (by decide) ?_
    refine Wx_irem dX14_feed_92 (by decide) ?_
    rw [show ((2 - 2 / 4 * 4) : Int32) = 2 from by decide]
    refine Wx_isub dX14_feed_93 ?_
    rw [show ((3 - 2) : Int32) = 1 from by decide]
    refine Wx_imul dX14_feed_94 ?_
    rw [show ((8 * 1) : Int32) = 8 from by decide]
    refine Wx_ishr dX14_feed_95 ?_
    refine Wx_i2b dX14_feed_96 ?_
    refine Wx_bastore 4000 dX14_feed_97 rfl (Nat.le_of_ble_eq_true rfl) (vp_in_nI (show (t + 2) < 4000 by omega) (by decide)) ?_
    rw [show ((nI (t + 2)) : Int32).toNatClampNeg = (t + 2) from nI_clamp (by omega)]
    refine Wx_iinc6 dX14_feed_98 rfl (Nat.le_of_ble_eq_true rfl) ?_
    rw [show ((2 : Int32) + Int32.ofInt 1) = 3 from by decide]
    refine Wx_goto 18 dX14_feed_101 (by decide) ?_
    refine Wx_iload6 dX14_feed_18 ?_
    refine Wx_bipush (v := 20) dX14_feed_20 (by decide) ?_
    refine Wx_icmp_ge 104 dX14_feed_22 (by decide) (fun h => absurd h (by decide)) (fun _ => ?_)
    refine Wx_iload6 dX14_feed_25 ?_
    refine Wx_iconst (v := 4) dX14_feed_27 (by decide) ?_
    refine Wx_icmp_ge 35 dX14_feed_28 (by decide) (fun h => absurd h (by decide)) (fun _ => ?_)
    refine Wx_iload1 dX14_feed_31 ?_
    refine Wx_goto 71 dX14_feed_32 (by decide) ?_
    refine Wx_istore7 dX14_feed_71 rfl (Nat.le_of_ble_eq_true rfl) ?_
    refine Wx_aload0 dX14_feed_73 ?_
    refine Wx_getR 14 1 68 dX14_feed_74 f_X14_16 rfl (Nat.le_of_ble_eq_true rfl) rfl ((Rf_pA (Rf_pA (Rf_pA hR))) 66 1 68 (by decide)) ?_
    refine Wx_aload0 dX14_feed_77 ?_
    refine Wx_getI 14 2 dX14_feed_78 f_X14_158 rfl (Nat.le_of_ble_eq_true rfl) rfl ?_
    rw [show gI (pA (pA (pA σ 68 t ((((a1 : Int32) >>> ((24 : Int32) &&& 31))).toInt8.toInt32 : Int32).toInt8.toInt32) 68 (t + 1) ((((a1 : Int32) >>> ((16 : Int32) &&& 31))).toInt8.toInt32 : Int32).toInt8.toInt32) 68 (t + 2) ((((a1 : Int32) >>> ((8 : Int32) &&& 31))).toInt8.toInt32 : Int32).toInt8.toInt32) 66 2 = (nI t) from (gI_pA.trans (gI_pA.trans (gI_pA.trans et)))]
    refine Wx_iload6 dX14_feed_81 ?_
    refine Wx_iadd dX14_feed_83 ?_
    rw [show (((nI t) + 3) : Int32) = nI (t + 3) from addE (a := t) (b := 3) rfl rfl (by omega)]
    refine Wx_iload7 dX14_feed_84 ?_
    refine Wx_bipush (v := 8) dX14_feed_86 (by decide) ?_
    refine Wx_iconst (v := 3) dX14_feed_88 (by decide) ?_
    refine Wx_iload6 dX14_feed_89 ?_
    refine Wx_iconst (v := 4) dX14_feed_91 (by decide) ?_
    refine Wx_irem dX14_feed_92 (by decide) ?_
    rw [show ((3 - 3 / 4 * 4) : Int32) = 3 from by decide]
    refine Wx_isub dX14_feed_93 ?_
    rw [show ((3 - 3) : Int32) = 0 from by decide]
    refine Wx_imul dX14_feed_94 ?_
    rw [show ((8 * 0) : Int32) = 0 from by decide]
    refine Wx_ishr dX14_feed_95 ?_
    refine Wx_i2b dX14_feed_96 ?_
    refine Wx_bastore 4000 dX14_feed_97 rfl (Nat.le_of_ble_eq_true rfl) (vp_in_nI (show (t + 3) < 4000 by omega) (by decide)) ?_
    rw [show ((nI (t + 3)) : Int32).toNatClampNeg = (t + 3) from nI_clamp (by omega)]
    refine Wx_iinc6 dX14_feed_98 rfl (Nat.le_of_ble_eq_true rfl) ?_
    rw [show ((3 : Int32) + Int32.ofInt 1) = 4 from by decide]
    refine Wx_goto 18 dX14_feed_101 (by decide) ?_
    refine Wx_iload6 dX14_feed_18 ?_
    refine Wx_bipush (v := 20) dX14_feed_20 (by decide) ?_
    refine Wx_icmp_ge 104 dX14_feed_22 (by decide) (fun h => absurd h (by decide)) (fun _ => ?_)
    refine Wx_iload6 dX14_feed_25 ?_
    refine Wx_iconst (v := 4) dX14_feed_27 (by decide) ?_
    refine Wx_icmp_ge 35 dX14_feed_28 (by decide) (fun _ => ?_) (fun h => absurd (by decide) h)
    refine Wx_iload6 dX14_feed_35 ?_
    refine Wx_bipush (v := 8) dX14_feed_37 (by decide) ?_
    refine Wx_icmp_ge 46 dX14_feed_39 (by decide) (fun h => absurd h (by decide)) (fun _ => ?_)
    refine Wx_iload2 dX14_feed_42 ?_
    refine Wx_goto 71 dX14_feed_43 (by decide) ?_
    refine Wx_istore7 dX14_feed_71 rfl (Nat.le_of_ble_eq_true rfl) ?_
    refine Wx_aload0 dX14_feed_73 ?_
    refine Wx_getR 14 1 68 dX14_feed_74 f_X14_16 rfl (Nat.le_of_ble_eq_true rfl) rfl ((Rf_pA (Rf_pA (Rf_pA (Rf_pA hR)))) 66 1 68 (by decide)) ?_
    refine Wx_aload0 dX14_feed_77 ?_
    refine Wx_getI 14 2 dX14_feed_78 f_X14_158 rfl (Nat.le_of_ble_eq_true rfl) rfl ?_
    rw [show gI (pA (pA (pA (pA σ 68 t ((((a1 : Int32) >>> ((24 : Int32) &&& 31))).toInt8.toInt32 : Int32).toInt8.toInt32) 68 (t + 1) ((((a1 : Int32) >>> ((16 : Int32) &&& 31))).toInt8.toInt32 : Int32).toInt8.toInt32) 68 (t + 2) ((((a1 : Int32) >>> ((8 : Int32) &&& 31))).toInt8.toInt32 : Int32).toInt8.toInt32) 68 (t + 3) ((((a1 : Int32) >>> ((0 : Int32) &&& 31))).toInt8.toInt32 : Int32).toInt8.toInt32) 66 2 = (nI t) from (gI_pA.trans (gI_pA.trans (gI_pA.trans (gI_pA.trans et))))]
    refine Wx_iload6 dX14_feed_81 ?_
    refine Wx_iadd dX14_feed_83 ?_
    rw [show (((nI t) + 4) : Int32) = nI (t + 4) from addE (a := t) (b := 4) rfl rfl (by omega)]
    refine Wx_iload7 dX14_feed_84 ?_
    refine Wx_bipush (v := 8) dX14_feed_86 (by decide) ?_
    refine Wx_iconst (v := 3) dX14_feed_88 (by decide) ?_
    refine Wx_iload6 dX14_feed_89 ?_
    refine Wx_iconst (v := 4) dX14_feed_91 (by decide) ?_
    refine Wx_irem dX14_feed_92 (by decide) ?_
    rw [show ((4 - 4 / 4 * 4) : Int32) = 0 from by decide]
    refine Wx_isub dX14_feed_93 ?_
    rw [show ((3 - 0) : Int32) = 3 from by decide]
    refine Wx_imul dX14_feed_94 ?_
    rw [show ((8 * 3) : Int32) = 24 from by decide]
    refine Wx_ishr dX14_feed_95 ?_
    refine Wx_i2b dX14_feed_96 ?_
    refine Wx_bastore 4000 dX14_feed_97 rfl (Nat.le_of_ble_eq_true rfl) (vp_in_nI (show (t + 4) < 4000 by omega) (by decide)) ?_
    rw [show ((nI (t + 4)) : Int32).toNatClampNeg = (t + 4) from nI_clamp (by omega)]
    refine Wx_iinc6 dX14_feed_98 rfl (Nat.le_of_ble_eq_true rfl) ?_
    rw [show ((4 : Int32) + Int32.ofInt 1) = 5 from by decide]
    refine Wx_goto 18 dX14_feed_101 (by decide) ?_
    refine Wx_iload6 dX14_feed_18 ?_
    refine Wx_bipush (v := 20) dX14_feed_20 (by decide) ?_
    refine Wx_icmp_ge 104 dX14_feed_22 (by decide) (fun h => absurd h (by decide)) (fun _ => ?_)
    refine Wx_iload6 dX14_feed_25 ?_
    refine Wx_iconst (v := 4) dX14_feed_27 (by decide) ?_
    refine Wx_icmp_ge 35 dX14_feed_28 (by decide) (fun _ => ?_) (fun h => absurd (by decide) h)
    refine Wx_iload6 dX14_feed_35 ?_
    refine Wx_bipush (v := 8) dX14_feed_37 (by decide) ?_
    refine Wx_icmp_ge 46 dX14_feed_39 (by decide) (fun h => absurd h (by decide)) (fun _ => ?_)
    refine Wx_iload2 dX14_feed_42 ?_
    refine Wx_goto 71 dX14_feed_43 (by decide) ?_
    refine Wx_istore7 dX14_feed_71 rfl (Nat.le_of_ble_eq_true rfl) ?_
    refine Wx_aload0 dX14_feed_73 ?_
    refine Wx_getR 14 1 68 dX14_feed_74 f_X14_16 rfl (Nat.le_of_ble_eq_true rfl) rfl ((Rf_pA (Rf_pA (Rf_pA (Rf_pA (Rf_pA hR))))) 66 1 68 (by decide)) ?_
    refine Wx_aload0 dX14_feed_77 ?_
    refine Wx_getI 14 2 dX14_feed_78 f_X14_158 rfl (Nat.le_of_ble_eq_true rfl) rfl ?_
    rw [show gI (pA (pA (pA (pA (pA σ 68 t ((((a1 : Int32) >>> ((24 : Int32) &&& 31))).toInt8.toInt32 : Int32).toInt8.toInt32) 68 (t + 1) ((((a1 : Int32) >>> ((16 : Int32) &&& 31))).toInt8.toInt32 : Int32).toInt8.toInt32) 68 (t + 2) ((((a1 : Int32) >>> ((8 : Int32) &&& 31))).toInt8.toInt32 : Int32).toInt8.toInt32) 68 (t + 3) ((((a1 : Int32) >>> ((0 : Int32) &&& 31))).toInt8.toInt32 : Int32).toInt8.toInt32) 68 (t + 4) ((((a2 : Int32) >>> ((24 : Int32) &&& 31))).toInt8.toInt32 : Int32).toInt8.toInt32) 66 2 = (nI t) from (gI_pA.trans (gI_pA.trans (gI_pA.trans (gI_pA.trans (gI_pA.trans et)))))]
    refine Wx_iload6 dX14_feed_81 ?_
    refine Wx_iadd dX14_feed_83 ?_
    rw [show (((nI t) + 5) : Int32) = nI (t + 5) from addE (a := t) (b := 5) rfl rfl (by omega)]
    refine Wx_iload7 dX14_feed_84 ?_
    refine Wx_bipush (v := 8) dX14_feed_86 (by decide) ?_
    refine Wx_iconst (v := 3) dX14_feed_88 (by decide) ?_
    refine Wx_iload6 dX14_feed_89 ?_
    refine Wx_iconst (v := 4) dX14_feed_91 (by decide) ?_
    refine Wx_irem dX14_feed_92 (by decide) ?_
    rw [show ((5 - 5 / 4 * 4) : Int32) = 1 from by decide]
    refine Wx_isub dX14_feed_93 ?_
    rw [show ((3 - 1) : Int32) = 2 from by decide]
    refine Wx_imul dX14_feed_94 ?_
    rw [show ((8 * 2) : Int32) = 16 from by decide]
    refine Wx_ishr dX14_feed_95 ?_
    refine Wx_i2b dX14_feed_96 ?_
    refine Wx_bastore 4000 dX14_feed_97 rfl (Nat.le_of_ble_eq_true rfl) (vp_in_nI (show (t + 5) < 4000 by omega) (by decide)) ?_
    rw [show ((nI (t + 5)) : Int32).toNatClampNeg = (t + 5) from nI_clamp (by omega)]
    refine Wx_iinc6 dX14_feed_98 rfl (Nat.le_of_ble_eq_true rfl) ?_
    rw [show ((5 : Int32) + Int32.ofInt 1) = 6 from by decide]
    refine Wx_goto 18 dX14_feed_101 (by decide) ?_
    refine Wx_iload6 dX14_feed_18 ?_
    refine Wx_bipush (v := 20) dX14_feed_20 (by decide) ?_
    refine Wx_icmp_ge 104 dX14_feed_22 (by decide) (fun h => absurd h (by decide)) (fun _ => ?_)
    refine Wx_iload6 dX14_feed_25 ?_
    refine Wx_iconst (v := 4) dX14_feed_27 (by decide) ?_
    refine Wx_icmp_ge 35 dX14_feed_28 (by decide) (fun _ => ?_) (fun h => absurd (by decide) h)
    refine Wx_iload6 dX14_feed_35 ?_
    refine Wx_bipush (v := 8) dX14_feed_37 (by decide) ?_
    refine Wx_icmp_ge 46 dX14_feed_39 (by decide) (fun h => absurd h (by decide)) (fun _ => ?_)
    refine Wx_iload2 dX14_feed_42 ?_
    refine Wx_goto 71 dX14_feed_43 (by decide) ?_
    refine Wx_istore7 dX14_feed_71 rfl (Nat.le_of_ble_eq_true rfl) ?_
    refine Wx_aload0 dX14_feed_73 ?_
    refine Wx_getR 14 1 68 dX14_feed_74 f_X14_16 rfl (Nat.le_of_ble_eq_true rfl) rfl ((Rf_pA (Rf_pA (Rf_pA (Rf_pA (Rf_pA (Rf_pA hR)))))) 66 1 68 (by decide)) ?_
    refine Wx_aload0 dX14_feed_77 ?_
    refine Wx_getI 14 2 dX14_feed_78 f_X14_158 rfl (Nat.le_of_ble_eq_true rfl) rfl ?_
    rw [show gI (pA (pA (pA (pA (pA (pA σ 68 t ((((a1 : Int32) >>> ((24 : Int32) &&& 31))).toInt8.toInt32 : Int32).toInt8.toInt32) 68 (t + 1) ((((a1 : Int32) >>> ((16 : Int32) &&& 31))).toInt8.toInt32 : Int32).toInt8.toInt32) 68 (t + 2) ((((a1 : Int32) >>> ((8 : Int32) &&& 31))).toInt8.toInt32 : Int32).toInt8.toInt32) 68 (t + 3) ((((a1 : Int32) >>> ((0 : Int32) &&& 31))).toInt8.toInt32 : Int32).toInt8.toInt32) 68 (t + 4) ((((a2 : Int32) >>> ((24 : Int32) &&& 31))).toInt8.toInt32 : Int32).toInt8.toInt32) 68 (t + 5) ((((a2 : Int32) >>> ((16 : Int32) &&& 31))).toInt8.toInt32 : Int32).toInt8.toInt32) 66 2 = (nI t) from (gI_pA.trans (gI_pA.trans (gI_pA.trans (gI_pA.trans (gI_pA.trans (gI_pA.trans et))))))]
    refine Wx_iload6 dX14_feed_81 ?_
    refine Wx_iadd dX14_feed_83 ?_
    rw [show (((nI t) + 6) : Int32) = nI (t + 6) from addE (a := t) (b := 6) rfl rfl (by omega)]
    refine Wx_iload7 dX14_feed_84 ?_
    refine Wx_bipush (v := 8) dX14_feed_86 (by decide) ?_
    refine Wx_iconst (v := 3) dX14_feed_88 (by decide) ?_
    refine Wx_iload6 dX14_feed_89 ?_
    refine Wx_iconst (v := 4) dX14_feed_91 (by decide) ?_
    refine Wx_irem dX14_feed_92 (by decide) ?_
    rw [show ((6 - 6 / 4 * 4) : Int32) = 2 from by decide]
    refine Wx_isub dX14_feed_93 ?_
    rw [show ((3 - 2) : Int32) = 1 from by decide]
    refine Wx_imul dX14_feed_94 ?_
    rw [show ((8 * 1) : Int32) = 8 from by decide]
    refine Wx_ishr dX14_feed_95 ?_
    refine Wx_i2b dX14_feed_96 ?_
    refine Wx_bastore 4000 dX14_feed_97 rfl (Nat.le_of_ble_eq_true rfl) (vp_in_nI (show (t + 6) < 4000 by omega) (by decide)) ?_
    rw [show ((nI (t + 6)) : Int32).toNatClampNeg = (t + 6) from nI_clamp (by omega)]
    refine Wx_iinc6 dX14_feed_98 rfl (Nat.le_of_ble_eq_true rfl) ?_
    rw [show ((6 : Int32) + Int32.ofInt 1) = 7 from by decide]
    refine Wx_goto 18 dX14_feed_101 (by decide) ?_
    refine Wx_iload6 dX14_feed_18 ?_
    refine Wx_bipush (v := 20) dX14_feed_20 (by decide) ?_
    refine Wx_icmp_ge 104 dX14_feed_22 (by decide) (fun h => absurd h (by decide)) (fun _ => ?_)
    refine Wx_iload6 dX14_feed_25 ?_
    refine Wx_iconst (v := 4) dX14_feed_27 (by decide) ?_
    refine Wx_icmp_ge 35 dX14_feed_28 (by decide) (fun _ => ?_) (fun h => absurd (by decide) h)
    refine Wx_iload6 dX14_feed_35 ?_
    refine Wx_bipush (v := 8) dX14_feed_37 (by decide) ?_
    refine Wx_icmp_ge 46 dX14_feed_39 (by decide) (fun h => absurd h (by decide)) (fun _ => ?_)
    refine Wx_iload2 dX14_feed_42 ?_
    refine Wx_goto 71 dX14_feed_43 (by decide) ?_
    refine Wx_istore7 dX14_feed_71 rfl (Nat.le_of_ble_eq_true rfl) ?_
    refine Wx_aload0 dX14_feed_73 ?_
    refine Wx_getR 14 1 68 dX14_feed_74 f_X14_16 rfl (Nat.le_of_ble_eq_true rfl) rfl ((Rf_pA (Rf_pA (Rf_pA (Rf_pA (Rf_pA (Rf_pA (Rf_pA hR))))))) 66 1 68 (by decide)) ?_
    refine Wx_aload0 dX14_feed_77 ?_
    refine Wx_getI 14 2 dX14_feed_78 f_X14_158 rfl (Nat.le_of_ble_eq_true rfl) rfl ?_
    rw [show gI (pA (pA (pA (pA (pA (pA (pA σ 68 t ((((a1 : Int32) >>> ((24 : Int32) &&& 31))).toInt8.toInt32 : Int32).toInt8.toInt32) 68 (t + 1) ((((a1 : Int32) >>> ((16 : Int32) &&& 31))).toInt8.toInt32 : Int32).toInt8.toInt32) 68 (t + 2) ((((a1 : Int32) >>> ((8 : Int32) &&& 31))).toInt8.toInt32 : Int32).toInt8.toInt32) 68 (t + 3) ((((a1 : Int32) >>> ((0 : Int32) &&& 31))).toInt8.toInt32 : Int32).toInt8.toInt32) 68 (t + 4) ((((a2 : Int32) >>> ((24 : Int32) &&& 31))).toInt8.toInt32 : Int32).toInt8.toInt32) 68 (t + 5) ((((a2 : Int32) >>> ((16 : Int32) &&& 31))).toInt8.toInt32 : Int32).toInt8.toInt32) 68 (t + 6) ((((a2 : Int32) >>> ((8 : Int32) &&& 31))).toInt8.toInt32 : Int32).toInt8.toInt32) 66 2 = (nI t) from (gI_pA.trans (gI_pA.trans (gI_pA.trans (gI_pA.trans (gI_pA.trans (gI_pA.trans (gI_pA.trans et)))))))]
    refine Wx_iload6 dX14_feed_81 ?_
    refine Wx_iadd dX14_feed_83 ?_
    rw [show (((nI t) + 7) : Int32) = nI (t + 7) from addE (a := t) (b := 7) rfl rfl (by omega)]
    refine Wx_iload7 dX14_feed_84 ?_
    refine Wx_bipush (v := 8) dX14_feed_86 (by decide) ?_
    refine Wx_iconst (v := 3) dX14_feed_88 (by decide) ?_
    refine Wx_iload6 dX14_feed_89 ?_
    refine Wx_iconst (v := 4) dX14_feed_91 (by decide) ?_
    refine Wx_irem dX14_feed_92 (by decide) ?_
    rw [show ((7 - 7 / 4 * 4) : Int32) = 3 from by decide]
    refine Wx_isub dX14_feed_93 ?_
    rw [show ((3 - 3) : Int32) = 0 from by decide]
    refine Wx_imul dX14_feed_94 ?_
    rw [show ((8 * 0) : Int32) = 0 from by decide]
    refine Wx_ishr dX14_feed_95 ?_
    refine Wx_i2b dX14_feed_96 ?_
    refine Wx_bastore 4000 dX14_feed_97 rfl (Nat.le_of_ble_eq_true rfl) (vp_in_nI (show (t + 7) < 4000 by omega) (by decide)) ?_
    rw [show ((nI (t + 7)) : Int32).toNatClampNeg = (t + 7) from nI_clamp (by omega)]
    refine Wx_iinc6 dX14_feed_98 rfl (Nat.le_of_ble_eq_true rfl) ?_
    rw [show ((7 : Int32) + Int32.ofInt 1) = 8 from by decide]
    refine Wx_goto 18 dX14_feed_101 (by decide) ?_
    refine Wx_iload6 dX14_feed_18 ?_
    refine Wx_bipush (v := 20) dX14_feed_20 (by decide) ?_
    refine Wx_icmp_ge 104 dX14_feed_22 (by decide) (fun h => absurd h (by decide)) (fun _ => ?_)
    refine Wx_iload6 dX14_feed_25 ?_
    refine Wx_iconst (v := 4) dX14_feed_27 (by decide) ?_
    refine Wx_icmp_ge 35 dX14_feed_28 (by decide) (fun _ => ?_) (fun h => absurd (by decide) h)
    refine Wx_iload6 dX14_feed_35 ?_
    refine Wx_bipush (v := 8) dX14_feed_37 (by decide) ?_
    refine Wx_icmp_ge 46 dX14_feed_39 (by decide) (fun _ => ?_) (fun h => absurd (by decide) h)
    refine Wx_iload6 dX14_feed_46 ?_
    refine Wx_bipush (v := 12) dX14_feed_48 (by decide) ?_
    refine Wx_icmp_ge 57 dX14_feed_50 (by decide) (fun h => absurd h (by decide)) (fun _ => ?_)
    refine Wx_iload3 dX14_feed_53 ?_
    refine Wx_goto 71 dX14_feed_54 (by decide) ?_
    refine Wx_istore7 dX14_feed_71 rfl (Nat.le_of_ble_eq_true rfl) ?_
    refine Wx_aload0 dX14_feed_73 ?_
    refine Wx_getR 14 1 68 dX14_feed_74 f_X14_16 rfl (Nat.le_of_ble_eq_true rfl) rfl ((Rf_pA (Rf_pA (Rf_pA (Rf_pA (Rf_pA (Rf_pA (Rf_pA (Rf_pA hR)))))))) 66 1 68 (by decide)) ?_
    refine Wx_aload0 dX14_feed_77 ?_
    refine Wx_getI 14 2 dX14_feed_78 f_X14_158 rfl (Nat.le_of_ble_eq_true rfl) rfl ?_
    rw [show gI (pA (pA (pA (pA (pA (pA (pA (pA σ 68 t ((((a1 : Int32) >>> ((24 : Int32) &&& 31))).toInt8.toInt32 : Int32).toInt8.toInt32) 68 (t + 1) ((((a1 : Int32) >>> ((16 : Int32) &&& 31))).toInt8.toInt32 : Int32).toInt8.toInt32) 68 (t + 2) ((((a1 : Int32) >>> ((8 : Int32) &&& 31))).toInt8.toInt32 : Int32).toInt8.toInt32) 68 (t + 3) ((((a1 : Int32) >>> ((0 : Int32) &&& 31))).toInt8.toInt32 : Int32).toInt8.toInt32) 68 (t + 4) ((((a2 : Int32) >>> ((24 : Int32) &&& 31))).toInt8.toInt32 : Int32).toInt8.toInt32) 68 (t + 5) ((((a2 : Int32) >>> ((16 : Int32) &&& 31))).toInt8.toInt32 : Int32).toInt8.toInt32) 68 (t + 6) ((((a2 : Int32) >>> ((8 : Int32) &&& 31))).toInt8.toInt32 : Int32).toInt8.toInt32) 68 (t + 7) ((((a2 : Int32) >>> ((0 : Int32) &&& 31))).toInt8.toInt32 : Int32).toInt8.toInt32) 66 2 = (nI t) from (gI_pA.trans (gI_pA.trans (gI_pA.trans (gI_pA.trans (gI_pA.trans (gI_pA.trans (gI_pA.trans (gI_pA.trans et))))))))]
    refine Wx_iload6 dX14_feed_81 ?_
    refine Wx_iadd dX14_feed_83 ?_
    rw [show (((nI t) + 8) : Int32) = nI (t + 8) from addE (a := t) (b := 8) rfl rfl (by omega)]
    refine Wx_iload7 dX14_feed_84 ?_
    refine Wx_bipush (v := 8) dX14_feed_86 (by decide) ?_
    refine Wx_iconst (v := 3) dX14_feed_88 (by decide) ?_
    refine Wx_iload6 dX14_feed_89 ?_
    refine Wx_iconst (v := 4) dX14_feed_91 (by decide) ?_
    refine Wx_irem dX14_feed_92 (by decide) ?_
    rw [show ((8 - 8 / 4 * 4) : Int32) = 0 from by decide]
    refine Wx_isub dX14_feed_93 ?_
    rw [show ((3 - 0) : Int32) = 3 from by decide]
    refine Wx_imul dX14_feed_94 ?_
    rw [show ((8 * 3) : Int32) = 24 from by decide]
    refine Wx_ishr dX14_feed_95 ?_
    refine Wx_i2b dX14_feed_96 ?_
    refine Wx_bastore 4000 dX14_feed_97 rfl (Nat.le_of_ble_eq_true rfl) (vp_in_nI (show (t + 8) < 4000 by omega) (by decide)) ?_
    rw [show ((nI (t + 8)) : Int32).toNatClampNeg = (t + 8) from nI_clamp (by omega)]
    refine Wx_iinc6 dX14_feed_98 rfl (Nat.le_of_ble_eq_true rfl) ?_
    rw [show ((8 : Int32) + Int32.ofInt 1) = 9 from by decide]
    refine Wx_goto 18 dX14_feed_101 (by decide) ?_
    refine Wx_iload6 dX14_feed_18 ?_
    refine Wx_bipush (v := 20) dX14_feed_20 (by decide) ?_
    refine Wx_icmp_ge 104 dX14_feed_22 (by decide) (fun h => absurd h (by decide)) (fun _ => ?_)
    refine Wx_iload6 dX14_feed_25 ?_
    refine Wx_iconst (v := 4) dX14_feed_27 (by decide) ?_
    refine Wx_icmp_ge 35 dX14_feed_28 (by decide) (fun _ => ?_) (fun h => absurd (by decide) h)
    refine Wx_iload6 dX14_feed_35 ?_
    refine Wx_bipush (v := 8) dX14_feed_37 (by decide) ?_
    refine Wx_icmp_ge 46 dX14_feed_39 (by decide) (fun _ => ?_) (fun h => absurd (by decide) h)
    refine Wx_iload6 dX14_feed_46 ?_
    refine Wx_bipush (v := 12) dX14_feed_48 (by decide) ?_
    refine Wx_icmp_ge 57 dX14_feed_50 (by decide) (fun h => absurd h (by decide)) (fun _ => ?_)
    refine Wx_iload3 dX14_feed_53 ?_
    refine Wx_goto 71 dX14_feed_54 (by decide) ?_
    refine Wx_istore7 dX14_feed_71 rfl (Nat.le_of_ble_eq_true rfl) ?_
    refine Wx_aload0 dX14_feed_73 ?_
    refine Wx_getR 14 1 68 dX14_feed_74 f_X14_16 rfl (Nat.le_of_ble_eq_true rfl) rfl ((Rf_pA (Rf_pA (Rf_pA (Rf_pA (Rf_pA (Rf_pA (Rf_pA (Rf_pA (Rf_pA hR))))))))) 66 1 68 (by decide)) ?_
    refine Wx_aload0 dX14_feed_77 ?_
    refine Wx_getI 14 2 dX14_feed_78 f_X14_158 rfl (Nat.le_of_ble_eq_true rfl) rfl ?_
    rw [show gI (pA (pA (pA (pA (pA (pA (pA (pA (pA σ 68 t ((((a1 : Int32) >>> ((24 : Int32) &&& 31))).toInt8.toInt32 : Int32).toInt8.toInt32) 68 (t + 1) ((((a1 : Int32) >>> ((16 : Int32) &&& 31))).toInt8.toInt32 : Int32).toInt8.toInt32) 68 (t + 2) ((((a1 : Int32) >>> ((8 : Int32) &&& 31))).toInt8.toInt32 : Int32).toInt8.toInt32) 68 (t + 3) ((((a1 : Int32) >>> ((0 : Int32) &&& 31))).toInt8.toInt32 : Int32).toInt8.toInt32) 68 (t + 4) ((((a2 : Int32) >>> ((24 : Int32) &&& 31))).toInt8.toInt32 : Int32).toInt8.toInt32) 68 (t + 5) ((((a2 : Int32) >>> ((16 : Int32) &&& 31))).toInt8.toInt32 : Int32).toInt8.toInt32) 68 (t + 6) ((((a2 : Int32) >>> ((8 : Int32) &&& 31))).toInt8.toInt32 : Int32).toInt8.toInt32) 68 (t + 7) ((((a2 : Int32) >>> ((0 : Int32) &&& 31))).toInt8.toInt32 : Int32).toInt8.toInt32) 68 (t + 8) ((((a3 : Int32) >>> ((24 : Int32) &&& 31))).toInt8.toInt32 : Int32).toInt8.toInt32) 66 2 = (nI t) from (gI_pA.trans (gI_pA.trans (gI_pA.trans (gI_pA.trans (gI_pA.trans (gI_pA.trans (gI_pA.trans (gI_pA.trans (gI_pA.trans et)))))))))]
    refine Wx_iload6 dX14_feed_81 ?_
    refine Wx_iadd dX14_feed_83 ?_
    rw [show (((nI t) + 9) : Int32) = nI (t + 9) from addE (a := t) (b := 9) rfl rfl (by omega)]
    refine Wx_iload7 dX14_feed_84 ?_
    refine Wx_bipush (v := 8) dX14_feed_86 (by decide) ?_
    refine Wx_iconst (v := 3) dX14_feed_88 (by decide) ?_
    refine Wx_iload6 dX14_feed_89 ?_
    refine Wx_iconst (v := 4) dX14_feed_91 (by decide) ?_
    refine Wx_irem dX14_feed_92 (by decide) ?_
    rw [show ((9 - 9 / 4 * 4) : Int32) = 1 from by decide]
    refine Wx_isub dX14_feed_93 ?_
    rw [show ((3 - 1) : Int32) = 2 from by decide]
    refine Wx_imul dX14_feed_94 ?_
    rw [show ((8 * 2) : Int32) = 16 from by decide]
    refine Wx_ishr dX14_feed_95 ?_
    refine Wx_i2b dX14_feed_96 ?_
    refine Wx_bastore 4000 dX14_feed_97 rfl (Nat.le_of_ble_eq_true rfl) (vp_in_nI (show (t + 9) < 4000 by omega) (by decide)) ?_
    rw [show ((nI (t + 9)) : Int32).toNatClampNeg = (t + 9) from nI_clamp (by omega)]
    refine Wx_iinc6 dX14_feed_98 rfl (Nat.le_of_ble_eq_true rfl) ?_
    rw [show ((9 : Int32) + Int32.ofInt 1) = 10 from by decide]
    refine Wx_goto 18 dX14_feed_101 (by decide) ?_
    refine Wx_iload6 dX14_feed_18 ?_
    refine Wx_bipush (v := 20) dX14_feed_20 (by decide) ?_
    refine Wx_icmp_ge 104 dX14_feed_22 (by decide) (fun h => absurd h (by decide)) (fun _ => ?_)
    refine Wx_iload6 dX14_feed_25 ?_
    refine Wx_iconst (v := 4) dX14_feed_27 (by decide) ?_
    refine Wx_icmp_ge 35 dX14_feed_28 (by decide) (fun _ => ?_) (fun h => absurd (by decide) h)
    refine Wx_iload6 dX14_feed_35 ?_
    refine Wx_bipush (v := 8) dX14_feed_37 (by decide) ?_
    refine Wx_icmp_ge 46 dX14_feed_39 (by decide) (fun _ => ?_) (fun h => absurd (by decide) h)
    refine Wx_iload6 dX14_feed_46 ?_
    refine Wx_bipush (v := 12) dX14_feed_48 (by decide) ?_
    refine Wx_icmp_ge 57 dX14_feed_50 (by decide) (fun h => absurd h (by decide)) (fun _ => ?_)
    refine Wx_iload3 dX14_feed_53 ?_
    refine Wx_goto 71 dX14_feed_54 (by decide) ?_
    refine Wx_istore7 dX14_feed_71 rfl (Nat.le_of_ble_eq_true rfl) ?_
    refine Wx_aload0 dX14_feed_73 ?_
    refine Wx_getR 14 1 68 dX14_feed_74 f_X14_16 rfl (Nat.le_of_ble_eq_true rfl) rfl ((Rf_pA (Rf_pA (Rf_pA (Rf_pA (Rf_pA (Rf_pA (Rf_pA (Rf_pA (Rf_pA (Rf_pA hR)))))))))) 66 1 68 (by decide)) ?_
    refine Wx_aload0 dX14_feed_77 ?_
    refine Wx_getI 14 2 dX14_feed_78 f_X14_158 rfl (Nat.le_of_ble_eq_true rfl) rfl ?_
    rw [show gI (pA (pA (pA (pA (pA (pA (pA (pA (pA (pA σ 68 t ((((a1 : Int32) >>> ((24 : Int32) &&& 31))).toInt8.toInt32 : Int32).toInt8.toInt32) 68 (t + 1) ((((a1 : Int32) >>> ((16 : Int32) &&& 31))).toInt8.toInt32 : Int32).toInt8.toInt32) 68 (t + 2) ((((a1 : Int32) >>> ((8 : Int32) &&& 31))).toInt8.toInt32 : Int32).toInt8.toInt32) 68 (t + 3) ((((a1 : Int32) >>> ((0 : Int32) &&& 31))).toInt8.toInt32 : Int32).toInt8.toInt32) 68 (t + 4) ((((a2 : Int32) >>> ((24 : Int32) &&& 31))).toInt8.toInt32 : Int32).toInt8.toInt32) 68 (t + 5) ((((a2 : Int32) >>> ((16 : Int32) &&& 31))).toInt8.toInt32 : Int32).toInt8.toInt32) 68 (t + 6) ((((a2 : Int32) >>> ((8 : Int32) &&& 31))).toInt8.toInt32 : Int32).toInt8.toInt32) 68 (t + 7) ((((a2 : Int32) >>> ((0 : Int32) &&& 31))).toInt8.toInt32 : Int32).toInt8.toInt32) 68 (t + 8) ((((a3 : Int32) >>> ((24 : Int32) &&& 31))).toInt8.toInt32 : Int32).toInt8.toInt32) 68 (t + 9) ((((a3 : Int32) >>> ((16 : Int32) &&& 31))).toInt8.toInt32 : Int32).toInt8.toInt32) 66 2 = (nI t) from (gI_pA.trans (gI_pA.trans (gI_pA.trans (gI_pA.trans (gI_pA.trans (gI_pA.trans (gI_pA.trans (gI_pA.trans (gI_pA.trans (gI_pA.trans et))))))))))]
    refine Wx_iload6 dX14_feed_81 ?_
    refine Wx_iadd dX14_feed_83 ?_
    rw [show (((nI t) + 10) : Int32) = nI (t + 10) from addE (a := t) (b := 10) rfl rfl (by omega)]
    refine Wx_iload7 dX14_feed_84 ?_
    refine Wx_bipush (v := 8) dX14_feed_86 (by decide) ?_
    refine Wx_iconst (v := 3) dX14_feed_88 (by decide) ?_
    refine Wx_iload6 dX14_feed_89 ?_
    refine Wx_iconst (v := 4) dX14_feed_91 (by decide) ?_
    refine Wx_irem dX14_feed_92 (by decide) ?_
    rw [show ((10 - 10 / 4 * 4) : Int32) = 2 from by decide]
    refine Wx_isub dX14_feed_93 ?_
    rw [show ((3 - 2) : Int32) = 1 from by decide]
    refine Wx_imul dX14_feed_94 ?_
    rw [show ((8 * 1) : Int32) = 8 from by decide]
    refine Wx_ishr dX14_feed_95 ?_
    refine Wx_i2b dX14_feed_96 ?_
    refine Wx_bastore 4000 dX14_feed_97 rfl (Nat.le_of_ble_eq_true rfl) (vp_in_nI (show (t + 10) < 4000 by omega) (by decide)) ?_
    rw [show ((nI (t + 10)) : Int32).toNatClampNeg = (t + 10) from nI_clamp (by omega)]
    refine Wx_iinc6 dX14_feed_98 rfl (Nat.le_of_ble_eq_true rfl) ?_
    rw [show ((10 : Int32) + Int32.ofInt 1) = 11 from by decide]
    refine Wx_goto 18 dX14_feed_101 (by decide) ?_
    refine Wx_iload6 dX14_feed_18 ?_
    refine Wx_bipush (v := 20) dX14_feed_20 (by decide) ?_
    refine Wx_icmp_ge 104 dX14_feed_22 (by decide) (fun h => absurd h (by decide)) (fun _ => ?_)
    refine Wx_iload6 dX14_feed_25 ?_
    refine Wx_iconst (v := 4) dX14_feed_27 (by decide) ?_
    refine Wx_icmp_ge 35 dX14_feed_28 (by decide) (fun _ => ?_) (fun h => absurd (by decide) h)
    refine Wx_iload6 dX14_feed_35 ?_
    refine Wx_bipush (v := 8) dX14_feed_37 (by decide) ?_
    refine Wx_icmp_ge 46 dX14_feed_39 (by decide) (fun _ => ?_) (fun h => absurd (by decide) h)
    refine Wx_iload6 dX14_feed_46 ?_
    refine Wx_bipush (v := 12) dX14_feed_48 (by decide) ?_
    refine Wx_icmp_ge 57 dX14_feed_50 (by decide) (fun h => absurd h (by decide)) (fun _ => ?_)
    refine Wx_iload3 dX14_feed_53 ?_
    refine Wx_goto 71 dX14_feed_54 (by decide) ?_
    refine Wx_istore7 dX14_feed_71 rfl (Nat.le_of_ble_eq_true rfl) ?_
    refine Wx_aload0 dX14_feed_73 ?_
    refine Wx_getR 14 1 68 dX14_feed_74 f_X14_16 rfl (Nat.le_of_ble_eq_true rfl) rfl ((Rf_pA (Rf_pA (Rf_pA (Rf_pA (Rf_pA (Rf_pA (Rf_pA (Rf_pA (Rf_pA (Rf_pA (Rf_pA hR))))))))))) 66 1 68 (by decide)) ?_
    refine Wx_aload0 dX14_feed_77 ?_
    refine Wx_getI 14 2 dX14_feed_78 f_X14_158 rfl (Nat.le_of_ble_eq_true rfl) rfl ?_
    rw [show gI (pA (pA (pA (pA (pA (pA (pA (pA (pA (pA (pA σ 68 t ((((a1 : Int32) >>> ((24 : Int32) &&& 31))).toInt8.toInt32 : Int32).toInt8.toInt32) 68 (t + 1) ((((a1 : Int32) >>> ((16 : Int32) &&& 31))).toInt8.toInt32 : Int32).toInt8.toInt32) 68 (t + 2) ((((a1 : Int32) >>> ((8 : Int32) &&& 31))).toInt8.toInt32 : Int32).toInt8.toInt32) 68 (t + 3) ((((a1 : Int32) >>> ((0 : Int32) &&& 31))).toInt8.toInt32 : Int32).toInt8.toInt32) 68 (t + 4) ((((a2 : Int32) >>> ((24 : Int32) &&& 31))).toInt8.toInt32 : Int32).toInt8.toInt32) 68 (t + 5) ((((a2 : Int32) >>> ((16 : Int32) &&& 31))).toInt8.toInt32 : Int32).toInt8.toInt32) 68 (t + 6) ((((a2 : Int32) >>> ((8 : Int32) &&& 31))).toInt8.toInt32 : Int32).toInt8.toInt32) 68 (t + 7) ((((a2 : Int32) >>> ((0 : Int32) &&& 31))).toInt8.toInt32 : Int32).toInt8.toInt32) 68 (t + 8) ((((a3 : Int32) >>> ((24 : Int32) &&& 31))).toInt8.toInt32 : Int32).toInt8.toInt32) 68 (t + 9) ((((a3 : Int32) >>> ((16 : Int32) &&& 31))).toInt8.toInt32 : Int32).toInt8.toInt32) 68 (t + 10) ((((a3 : Int32) >>> ((8 : Int32) &&& 31))).toInt8.toInt32 : Int32).toInt8.toInt32) 66 2 = (nI t) from (gI_pA.trans (gI_pA.trans (gI_pA.trans (gI_pA.trans (gI_pA.trans (gI_pA.trans (gI_pA.trans (gI_pA.trans (gI_pA.trans (gI_pA.trans (gI_pA.trans et)))))))))))]
    refine Wx_iload6 dX14_feed_81 ?_
    refine Wx_iadd dX14_feed_83 ?_
    rw [show (((nI t) + 11) : Int32) = nI (t + 11) from addE (a := t) (b := 11) rfl rfl (by omega)]
    refine Wx_iload7 dX14_feed_84 ?_
    refine Wx_bipush (v := 8) dX14_feed_86 (by decide) ?_
    refine Wx_iconst (v := 3) dX14_feed_88 (by decide) ?_
    refine Wx_iload6 dX14_feed_89 ?_
    refine Wx_iconst (v := 4) dX14_feed_91 (by decide) ?_
    refine Wx_irem dX14_feed_92 (by decide) ?_
    rw [show ((11 - 11 / 4 * 4) : Int32) = 3 from by decide]
    refine Wx_isub dX14_feed_93 ?_
    rw [show ((3 - 3) : Int32) = 0 from by decide]
    refine Wx_imul dX14_feed_94 ?_
    rw [show ((8 * 0) : Int32) = 0 from by decide]
    refine Wx_ishr dX14_feed_95 ?_
    refine Wx_i2b dX14_feed_96 ?_
    refine Wx_bastore 4000 dX14_feed_97 rfl (Nat.le_of_ble_eq_true rfl) (vp_in_nI (show (t + 11) < 4000 by omega) (by decide)) ?_
    rw [show ((nI (t + 11)) : Int32).toNatClampNeg = (t + 11) from nI_clamp (by omega)]
    refine Wx_iinc6 dX14_feed_98 rfl (Nat.le_of_ble_eq_true rfl) ?_
    rw [show ((11 : Int32) + Int32.ofInt 1) = 12 from by decide]
    refine Wx_goto 18 dX14_feed_101 (by decide) ?_
    refine Wx_iload6 dX14_feed_18 ?_
    refine Wx_bipush (v := 20) dX14_feed_20 (by decide) ?_
    refine Wx_icmp_ge 104 dX14_feed_22 (by decide) (fun h => absurd h (by decide)) (fun _ => ?_)
    refine Wx_iload6 dX14_feed_25 ?_
    refine Wx_iconst (v := 4) dX14_feed_27 (by decide) ?_
    refine Wx_icmp_ge 35 dX14_feed_28 (by decide) (fun _ => ?_) (fun h => absurd (by decide) h)
    refine Wx_iload6 dX14_feed_35 ?_
    refine Wx_bipush (v := 8) dX14_feed_37 (by decide) ?_
    refine Wx_icmp_ge 46 dX14_feed_39 (by decide) (fun _ => ?_) (fun h => absurd (by decide) h)
    refine Wx_iload6 dX14_feed_46 ?_
    refine Wx_bipush (v := 12) dX14_feed_48 (by decide) ?_
    refine Wx_icmp_ge 57 dX14_feed_50 (by decide) (fun _ => ?_) (fun h => absurd (by decide) h)
    refine Wx_iload6 dX14_feed_57 ?_
    refine Wx_bipush (v := 16) dX14_feed_59 (by decide) ?_
    refine Wx_icmp_ge 69 dX14_feed_61 (by decide) (fun h => absurd h (by decide)) (fun _ => ?_)
    refine Wx_iload4 dX14_feed_64 ?_
    refine Wx_goto 71 dX14_feed_66 (by decide) ?_
    refine Wx_istore7 dX14_feed_71 rfl (Nat.le_of_ble_eq_true rfl) ?_
    refine Wx_aload0 dX14_feed_73 ?_
    refine Wx_getR 14 1 68 dX14_feed_74 f_X14_16 rfl (Nat.le_of_ble_eq_true rfl) rfl ((Rf_pA (Rf_pA (Rf_pA (Rf_pA (Rf_pA (Rf_pA (Rf_pA (Rf_pA (Rf_pA (Rf_pA (Rf_pA (Rf_pA hR)))))))))))) 66 1 68 (by decide)) ?_
    refine Wx_aload0 dX14_feed_77 ?_
    refine Wx_getI 14 2 dX14_feed_78 f_X14_158 rfl (Nat.le_of_ble_eq_true rfl) rfl ?_
    rw [show gI (pA (pA (pA (pA (pA (pA (pA (pA (pA (pA (pA (pA σ 68 t ((((a1 : Int32) >>> ((24 : Int32) &&& 31))).toInt8.toInt32 : Int32).toInt8.toInt32) 68 (t + 1) ((((a1 : Int32) >>> ((16 : Int32) &&& 31))).toInt8.toInt32 : Int32).toInt8.toInt32) 68 (t + 2) ((((a1 : Int32) >>> ((8 : Int32) &&& 31))).toInt8.toInt32 : Int32).toInt8.toInt32) 68 (t + 3) ((((a1 : Int32) >>> ((0 : Int32) &&& 31))).toInt8.toInt32 : Int32).toInt8.toInt32) 68 (t + 4) ((((a2 : Int32) >>> ((24 : Int32) &&& 31))).toInt8.toInt32 : Int32).toInt8.toInt32) 68 (t + 5) ((((a2 : Int32) >>> ((16 : Int32) &&& 31))).toInt8.toInt32 : Int32).toInt8.toInt32) 68 (t + 6) ((((a2 : Int32) >>> ((8 : Int32) &&& 31))).toInt8.toInt32 : Int32).toInt8.toInt32) 68 (t + 7) ((((a2 : Int32) >>> ((0 : Int32) &&& 31))).toInt8.toInt32 : Int32).toInt8.toInt32) 68 (t + 8) ((((a3 : Int32) >>> ((24 : Int32) &&& 31))).toInt8.toInt32 : Int32).toInt8.toInt32) 68 (t + 9) ((((a3 : Int32) >>> ((16 : Int32) &&& 31))).toInt8.toInt32 : Int32).toInt8.toInt32) 68 (t + 10) ((((a3 : Int32) >>> ((8 : Int32) &&& 31))).toInt8.toInt32 : Int32).toInt8.toInt32) 68 (t + 11) ((((a3 : Int32) >>> ((0 : Int32) &&& 31))).toInt8.toInt32 : Int32).toInt8.toInt32) 66 2 = (nI t) from (gI_pA.trans (gI_pA.trans (gI_pA.trans (gI_pA.trans (gI_pA.trans (gI_pA.trans (gI_pA.trans (gI_pA.trans (gI_pA.trans (gI_pA.trans (gI_pA.trans (gI_pA.trans et))))))))))))]
    refine Wx_iload6 dX14_feed_81 ?_
    refine Wx_iadd dX14_feed_83 ?_
    rw [show (((nI t) + 12) : Int32) = nI (t + 12) from addE (a := t) (b := 12) rfl rfl (by omega)]
    refine Wx_iload7 dX14_feed_84 ?_
    refine Wx_bipush (v := 8) dX14_feed_86 (by decide) ?_
    refine Wx_iconst (v := 3) dX14_feed_88 (by decide) ?_
    refine Wx_iload6 dX14_feed_89 ?_
    refine Wx_iconst (v := 4) dX14_feed_91 (by decide) ?_
    refine Wx_irem dX14_feed_92 (by decide) ?_
    rw [show ((12 - 12 / 4 * 4) : Int32) = 0 from by decide]
    refine Wx_isub dX14_feed_93 ?_
    rw [show ((3 - 0) : Int32) = 3 from by decide]
    refine Wx_imul dX14_feed_94 ?_
    rw [show ((8 * 3) : Int32) = 24 from by decide]
    refine Wx_ishr dX14_feed_95 ?_
    refine Wx_i2b dX14_feed_96 ?_
    refine Wx_bastore 4000 dX14_feed_97 rfl (Nat.le_of_ble_eq_true rfl) (vp_in_nI (show (t + 12) < 4000 by omega) (by decide)) ?_
    rw [show ((nI (t + 12)) : Int32).toNatClampNeg = (t + 12) from nI_clamp (by omega)]
    refine Wx_iinc6 dX14_feed_98 rfl (Nat.le_of_ble_eq_true rfl) ?_
    rw [show ((12 : Int32) + Int32.ofInt 1) = 13 from by decide]
    refine Wx_goto 18 dX14_feed_101 (by decide) ?_
    refine Wx_iload6 dX14_feed_18 ?_
    refine Wx_bipush (v := 20) dX14_feed_20 (by decide) ?_
    refine Wx_icmp_ge 104 dX14_feed_22 (by decide) (fun h => absurd h (by decide)) (fun _ => ?_)
    refine Wx_iload6 dX14_feed_25 ?_
    refine Wx_iconst (v := 4) dX14_feed_27 (by decide) ?_
    refine Wx_icmp_ge 35 dX14_feed_28 (by decide) (fun _ => ?_) (fun h => absurd (by decide) h)
    refine Wx_iload6 dX14_feed_35 ?_
    refine Wx_bipush (v := 8) dX14_feed_37 (by decide) ?_
    refine Wx_icmp_ge 46 dX14_feed_39 (by decide) (fun _ => ?_) (fun h => absurd (by decide) h)
    refine Wx_iload6 dX14_feed_46 ?_
    refine Wx_bipush (v := 12) dX14_feed_48 (by decide) ?_
    refine Wx_icmp_ge 57 dX14_feed_50 (by decide) (fun _ => ?_) (fun h => absurd (by decide) h)
    refine Wx_iload6 dX14_feed_57 ?_
    refine Wx_bipush (v := 16) dX14_feed_59 (by decide) ?_
    refine Wx_icmp_ge 69 dX14_feed_61 (by decide) (fun h => absurd h (by decide)) (fun _ => ?_)
    refine Wx_iload4 dX14_feed_64 ?_
    refine Wx_goto 71 dX14_feed_66 (by decide) ?_
    refine Wx_istore7 dX14_feed_71 rfl (Nat.le_of_ble_eq_true rfl) ?_
    refine Wx_aload0 dX14_feed_73 ?_
    refine Wx_getR 14 1 68 dX14_feed_74 f_X14_16 rfl (Nat.le_of_ble_eq_true rfl) rfl ((Rf_pA (Rf_pA (Rf_pA (Rf_pA (Rf_pA (Rf_pA (Rf_pA (Rf_pA (Rf_pA (Rf_pA (Rf_pA (Rf_pA (Rf_pA hR))))))))))))) 66 1 68 (by decide)) ?_
    refine Wx_aload0 dX14_feed_77 ?_
    refine Wx_getI 14 2 dX14_feed_78 f_X14_158 rfl (Nat.le_of_ble_eq_true rfl) rfl ?_
    rw [show gI (pA (pA (pA (pA (pA (pA (pA (pA (pA (pA (pA (pA (pA σ 68 t ((((a1 : Int32) >>> ((24 : Int32) &&& 31))).toInt8.toInt32 : Int32).toInt8.toInt32) 68 (t + 1) ((((a1 : Int32) >>> ((16 : Int32) &&& 31))).toInt8.toInt32 : Int32).toInt8.toInt32) 68 (t + 2) ((((a1 : Int32) >>> ((8 : Int32) &&& 31))).toInt8.toInt32 : Int32).toInt8.toInt32) 68 (t + 3) ((((a1 : Int32) >>> ((0 : Int32) &&& 31))).toInt8.toInt32 : Int32).toInt8.toInt32) 68 (t + 4) ((((a2 : Int32) >>> ((24 : Int32) &&& 31))).toInt8.toInt32 : Int32).toInt8.toInt32) 68 (t + 5) ((((a2 : Int32) >>> ((16 : Int32) &&& 31))).toInt8.toInt32 : Int32).toInt8.toInt32) 68 (t + 6) ((((a2 : Int32) >>> ((8 : Int32) &&& 31))).toInt8.toInt32 : Int32).toInt8.toInt32) 68 (t + 7) ((((a2 : Int32) >>> ((0 : Int32) &&& 31))).toInt8.toInt32 : Int32).toInt8.toInt32) 68 (t + 8) ((((a3 : Int32) >>> ((24 : Int32) &&& 31))).toInt8.toInt32 : Int32).toInt8.toInt32) 68 (t + 9) ((((a3 : Int32) >>> ((16 : Int32) &&& 31))).toInt8.toInt32 : Int32).toInt8.toInt32) 68 (t + 10) ((((a3 : Int32) >>> ((8 : Int32) &&& 31))).toInt8.toInt32 : Int32).toInt8.toInt32) 68 (t + 11) ((((a3 : Int32) >>> ((0 : Int32) &&& 31))).toInt8.toInt32 : Int32).toInt8.toInt32) 68 (t + 12) ((((a4 : Int32) >>> ((24 : Int32) &&& 31))).toInt8.toInt32 : Int32).toInt8.toInt32) 66 2 = (nI t) from (gI_pA.trans (gI_pA.trans (gI_pA.trans (gI_pA.trans (gI_pA.trans (gI_pA.trans (gI_pA.trans (gI_pA.trans (gI_pA.trans (gI_pA.trans (gI_pA.trans (gI_pA.trans (gI_pA.trans et)))))))))))))]
    refine Wx_iload6 dX14_feed_81 ?_
    refine Wx_iadd dX14_feed_83 ?_
    rw [show (((nI t) + 13) : Int32) = nI (t + 13) from addE (a := t) (b := 13) rfl rfl (by omega)]
    refine Wx_iload7 dX14_feed_84 ?_
    refine Wx_bipush (v := 8) dX14_feed_86 (by decide) ?_
    refine Wx_iconst (v := 3) dX14_feed_88 (by decide) ?_
    refine Wx_iload6 dX14_feed_89 ?_
    refine Wx_iconst (v := 4) dX14_feed_91 (by decide) ?_
    refine Wx_irem dX14_feed_92 (by decide) ?_
    rw [show ((13 - 13 / 4 * 4) : Int32) = 1 from by decide]
    refine Wx_isub dX14_feed_93 ?_
    rw [show ((3 - 1) : Int32) = 2 from by decide]
    refine Wx_imul dX14_feed_94 ?_
    rw [show ((8 * 2) : Int32) = 16 from by decide]
    refine Wx_ishr dX14_feed_95 ?_
    refine Wx_i2b dX14_feed_96 ?_
    refine Wx_bastore 4000 dX14_feed_97 rfl (Nat.le_of_ble_eq_true rfl) (vp_in_nI (show (t + 13) < 4000 by omega) (by decide)) ?_
    rw [show ((nI (t + 13)) : Int32).toNatClampNeg = (t + 13) from nI_clamp (by omega)]
    refine Wx_iinc6 dX14_feed_98 rfl (Nat.le_of_ble_eq_true rfl) ?_
    rw [show ((13 : Int32) + Int32.ofInt 1) = 14 from by decide]
    refine Wx_goto 18 dX14_feed_101 (by decide) ?_
    refine Wx_iload6 dX14_feed_18 ?_
    refine Wx_bipush (v := 20) dX14_feed_20 (by decide) ?_
    refine Wx_icmp_ge 104 dX14_feed_22 (by decide) (fun h => absurd h (by decide)) (fun _ => ?_)
    refine Wx_iload6 dX14_feed_25 ?_
    refine Wx_iconst (v := 4) dX14_feed_27 (by decide) ?_
    refine Wx_icmp_ge 35 dX14_feed_28 (by decide) (fun _ => ?_) (fun h => absurd (by decide) h)
    refine Wx_iload6 dX14_feed_35 ?_
    refine Wx_bipush (v := 8) dX14_feed_37 (by decide) ?_
    refine Wx_icmp_ge 46 dX14_feed_39 (by decide) (fun _ => ?_) (fun h => absurd (by decide) h)
    refine Wx_iload6 dX14_feed_46 ?_
    refine Wx_bipush (v := 12) dX14_feed_48 (by decide) ?_
    refine Wx_icmp_ge 57 dX14_feed_50 (by decide) (fun _ => ?_) (fun h => absurd (by decide) h)
    refine Wx_iload6 dX14_feed_57 ?_
    refine Wx_bipush (v := 16) dX14_feed_59 (by decide) ?_
    refine Wx_icmp_ge 69 dX14_feed_61 (by decide) (fun h => absurd h (by decide)) (fun _ => ?_)
    refine Wx_iload4 dX14_feed_64 ?_
    refine Wx_goto 71 dX14_feed_66 (by decide) ?_
    refine Wx_istore7 dX14_feed_71 rfl (Nat.le_of_ble_eq_true rfl) ?_
    refine Wx_aload0 dX14_feed_73 ?_
    refine Wx_getR 14 1 68 dX14_feed_74 f_X14_16 rfl (Nat.le_of_ble_eq_true rfl) rfl ((Rf_pA (Rf_pA (Rf_pA (Rf_pA (Rf_pA (Rf_pA (Rf_pA (Rf_pA (Rf_pA (Rf_pA (Rf_pA (Rf_pA (Rf_pA (Rf_pA hR)))))))))))))) 66 1 68 (by decide)) ?_
    refine Wx_aload0 dX14_feed_77 ?_
    refine Wx_getI 14 2 dX14_feed_78 f_X14_158 rfl (Nat.le_of_ble_eq_true rfl) rfl ?_
    rw [show gI (pA (pA (pA (pA (pA (pA (pA (pA (pA (pA (pA (pA (pA (pA σ 68 t ((((a1 : Int32) >>> ((24 : Int32) &&& 31))).toInt8.toInt32 : Int32).toInt8.toInt32) 68 (t + 1) ((((a1 : Int32) >>> ((16 : Int32) &&& 31))).toInt8.toInt32 : Int32).toInt8.toInt32) 68 (t + 2) ((((a1 : Int32) >>> ((8 : Int32) &&& 31))).toInt8.toInt32 : Int32).toInt8.toInt32) 68 (t + 3) ((((a1 : Int32) >>> ((0 : Int32) &&& 31))).toInt8.toInt32 : Int32).toInt8.toInt32) 68 (t + 4) ((((a2 : Int32) >>> ((24 : Int32) &&& 31))).toInt8.toInt32 : Int32).toInt8.toInt32) 68 (t + 5) ((((a2 : Int32) >>> ((16 : Int32) &&& 31))).toInt8.toInt32 : Int32).toInt8.toInt32) 68 (t + 6) ((((a2 : Int32) >>> ((8 : Int32) &&& 31))).toInt8.toInt32 : Int32).toInt8.toInt32) 68 (t + 7) ((((a2 : Int32) >>> ((0 : Int32) &&& 31))).toInt8.toInt32 : Int32).toInt8.toInt32) 68 (t + 8) ((((a3 : Int32) >>> ((24 : Int32) &&& 31))).toInt8.toInt32 : Int32).toInt8.toInt32) 68 (t + 9) ((((a3 : Int32) >>> ((16 : Int32) &&& 31))).toInt8.toInt32 : Int32).toInt8.toInt32) 68 (t + 10) ((((a3 : Int32) >>> ((8 : Int32) &&& 31))).toInt8.toInt32 : Int32).toInt8.toInt32) 68 (t + 11) ((((a3 : Int32) >>> ((0 : Int32) &&& 31))).toInt8.toInt32 : Int32).toInt8.toInt32) 68 (t + 12) ((((a4 : Int32) >>> ((24 : Int32) &&& 31))).toInt8.toInt32 : Int32).toInt8.toInt32) 68 (t + 13) ((((a4 : Int32) >>> ((16 : Int32) &&& 31))).toInt8.toInt32 : Int32).toInt8.toInt32) 66 2 = (nI t) from (gI_pA.trans (gI_pA.trans (gI_pA.trans (gI_pA.trans (gI_pA.trans (gI_pA.trans (gI_pA.trans (gI_pA.trans (gI_pA.trans (gI_pA.trans (gI_pA.trans (gI_pA.trans (gI_pA.trans (gI_pA.trans et))))))))))))))]
    refine Wx_iload6 dX14_feed_81 ?_
    refine Wx_iadd dX14_feed_83 ?_
    rw [show (((nI t) + 14) : Int32) = nI (t + 14) from addE (a := t) (b := 14) rfl rfl (by omega)]
    refine Wx_iload7 dX14_feed_84 ?_
    refine Wx_bipush (v := 8) dX14_feed_86 (by decide) ?_
    refine Wx_iconst (v := 3) dX14_feed_88 (by decide) ?_
    refine Wx_iload6 dX14_feed_89 ?_
    refine Wx_iconst (v := 4) dX14_feed_91 (by decide) ?_
    refine Wx_irem dX14_feed_92 (by decide) ?_
    rw [show ((14 - 14 / 4 * 4) : Int32) = 2 from by decide]
    refine Wx_isub dX14_feed_93 ?_
    rw [show ((3 - 2) : Int32) = 1 from by decide]
    refine Wx_imul dX14_feed_94 ?_
    rw [show ((8 * 1) : Int32) = 8 from by decide]
    refine Wx_ishr dX14_feed_95 ?_
    refine Wx_i2b dX14_feed_96 ?_
    refine Wx_bastore 4000 dX14_feed_97 rfl (Nat.le_of_ble_eq_true rfl) (vp_in_nI (show (t + 14) < 4000 by omega) (by decide)) ?_
    rw [show ((nI (t + 14)) : Int32).toNatClampNeg = (t + 14) from nI_clamp (by omega)]
    refine Wx_iinc6 dX14_feed_98 rfl (Nat.le_of_ble_eq_true rfl) ?_
    rw [show ((14 : Int32) + Int32.ofInt 1) = 15 from by decide]
    refine Wx_goto 18 dX14_feed_101 (by decide) ?_
    refine Wx_iload6 dX14_feed_18 ?_
    refine Wx_bipush (v := 20) dX14_feed_20 (by decide) ?_
    refine Wx_icmp_ge 104 dX14_feed_22 (by decide) (fun h => absurd h (by decide)) (fun _ => ?_)
    refine Wx_iload6 dX14_feed_25 ?_
    refine Wx_iconst (v := 4) dX14_feed_27 (by decide) ?_
    refine Wx_icmp_ge 35 dX14_feed_28 (by decide) (fun _ => ?_) (fun h => absurd (by decide) h)
    refine Wx_iload6 dX14_feed_35 ?_
    refine Wx_bipush (v := 8) dX14_feed_37 (by decide) ?_
    refine Wx_icmp_ge 46 dX14_feed_39 (by decide) (fun _ => ?_) (fun h => absurd (by decide) h)
    refine Wx_iload6 dX14_feed_46 ?_
    refine Wx_bipush (v := 12) dX14_feed_48 (by decide) ?_
    refine Wx_icmp_ge 57 dX14_feed_50 (by decide) (fun _ => ?_) (fun h => absurd (by decide) h)
    refine Wx_iload6 dX14_feed_57 ?_
    refine Wx_bipush (v := 16) dX14_feed_59 (by decide) ?_
    refine Wx_icmp_ge 69 dX14_feed_61 (by decide) (fun h => absurd h (by decide)) (fun _ => ?_)
    refine Wx_iload4 dX14_feed_64 ?_
    refine Wx_goto 71 dX14_feed_66 (by decide) ?_
    refine Wx_istore7 dX14_feed_71 rfl (Nat.le_of_ble_eq_true rfl) ?_
    refine Wx_aload0 dX14_feed_73 ?_
    refine Wx_getR 14 1 68 dX14_feed_74 f_X14_16 rfl (Nat.le_of_ble_eq_true rfl) rfl ((Rf_pA (Rf_pA (Rf_pA (Rf_pA (Rf_pA (Rf_pA (Rf_pA (Rf_pA (Rf_pA (Rf_pA (Rf_pA (Rf_pA (Rf_pA (Rf_pA (Rf_pA hR))))))))))))))) 66 1 68 (by decide)) ?_
    refine Wx_aload0 dX14_feed_77 ?_
    refine Wx_getI 14 2 dX14_feed_78 f_X14_158 rfl (Nat.le_of_ble_eq_true rfl) rfl ?_
    rw [show gI (pA (pA (pA (pA (pA (pA (pA (pA (pA (pA (pA (pA (pA (pA (pA σ 68 t ((((a1 : Int32) >>> ((24 : Int32) &&& 31))).toInt8.toInt32 : Int32).toInt8.toInt32) 68 (t + 1) ((((a1 : Int32) >>> ((16 : Int32) &&& 31))).toInt8.toInt32 : Int32).toInt8.toInt32) 68 (t + 2) ((((a1 : Int32) >>> ((8 : Int32) &&& 31))).toInt8.toInt32 : Int32).toInt8.toInt32) 68 (t + 3) ((((a1 : Int32) >>> ((0 : Int32) &&& 31))).toInt8.toInt32 : Int32).toInt8.toInt32) 68 (t + 4) ((((a2 : Int32) >>> ((24 : Int32) &&& 31))).toInt8.toInt32 : Int32).toInt8.toInt32) 68 (t + 5) ((((a2 : Int32) >>> ((16 : Int32) &&& 31))).toInt8.toInt32 : Int32).toInt8.toInt32) 68 (t + 6) ((((a2 : Int32) >>> ((8 : Int32) &&& 31))).toInt8.toInt32 : Int32).toInt8.toInt32) 68 (t + 7) ((((a2 : Int32) >>> ((0 : Int32) &&& 31))).toInt8.toInt32 : Int32).toInt8.toInt32) 68 (t + 8) ((((a3 : Int32) >>> ((24 : Int32) &&& 31))).toInt8.toInt32 : Int32).toInt8.toInt32) 68 (t + 9) ((((a3 : Int32) >>> ((16 : Int32) &&& 31))).toInt8.toInt32 : Int32).toInt8.toInt32) 68 (t + 10) ((((a3 : Int32) >>> ((8 : Int32) &&& 31))).toInt8.toInt32 : Int32).toInt8.toInt32) 68 (t + 11) ((((a3 : Int32) >>> ((0 : Int32) &&& 31))).toInt8.toInt32 : Int32).toInt8.toInt32) 68 (t + 12) ((((a4 : Int32) >>> ((24 : Int32) &&& 31))).toInt8.toInt32 : Int32).toInt8.toInt32) 68 (t + 13) ((((a4 : Int32) >>> ((16 : Int32) &&& 31))).toInt8.toInt32 : Int32).toInt8.toInt32) 68 (t + 14) ((((a4 : Int32) >>> ((8 : Int32) &&& 31))).toInt8.toInt32 : Int32).toInt8.toInt32) 66 2 = (nI t) from (gI_pA.trans (gI_pA.trans (gI_pA.trans (gI_pA.trans (gI_pA.trans (gI_pA.trans (gI_pA.trans (gI_pA.trans (gI_pA.trans (gI_pA.trans (gI_pA.trans (gI_pA.trans (gI_pA.trans (gI_pA.trans (gI_pA.trans et)))))))))))))))]
    refine Wx_iload6 dX14_feed_81 ?_
    refine Wx_iadd dX14_feed_83 ?_
    rw [show (((nI t) + 15) : Int32) = nI (t + 15) from addE (a := t) (b := 15) rfl rfl (by omega)]
    refine Wx_iload7 dX14_feed_84 ?_
    refine Wx_bipush (v := 8) dX14_feed_86 (by decide) ?_
    refine Wx_iconst (v := 3) dX14_feed_88 (by decide) ?_
    refine Wx_iload6 dX14_feed_89 ?_
    refine Wx_iconst (v := 4) dX14_feed_91 (by decide) ?_
    refine Wx_irem dX14_feed_92 (by decide) ?_
    rw [show ((15 - 15 / 4 * 4) : Int32) = 3 from by decide]
    refine Wx_isub dX14_feed_93 ?_
    rw [show ((3 - 3) : Int32) = 0 from by decide]
    refine Wx_imul dX14_feed_94 ?_
    rw [show ((8 * 0) : Int32) = 0 from by decide]
    refine Wx_ishr dX14_feed_95 ?_
    refine Wx_i2b dX14_feed_96 ?_
    refine Wx_bastore 4000 dX14_feed_97 rfl (Nat.le_of_ble_eq_true rfl) (vp_in_nI (show (t + 15) < 4000 by omega) (by decide)) ?_
    rw [show ((nI (t + 15)) : Int32).toNatClampNeg = (t + 15) from nI_clamp (by omega)]
    refine Wx_iinc6 dX14_feed_98 rfl (Nat.le_of_ble_eq_true rfl) ?_
    rw [show ((15 : Int32) + Int32.ofInt 1) = 16 from by decide]
    refine Wx_goto 18 dX14_feed_101 (by decide) ?_
    refine Wx_iload6 dX14_feed_18 ?_
    refine Wx_bipush (v := 20) dX14_feed_20 (by decide) ?_
    refine Wx_icmp_ge 104 dX14_feed_22 (by decide) (fun h => absurd h (by decide)) (fun _ => ?_)
    refine Wx_iload6 dX14_feed_25 ?_
    refine Wx_iconst (v := 4) dX14_feed_27 (by decide) ?_
    refine Wx_icmp_ge 35 dX14_feed_28 (by decide) (fun _ => ?_) (fun h => absurd (by decide) h)
    refine Wx_iload6 dX14_feed_35 ?_
    refine Wx_bipush (v := 8) dX14_feed_37 (by decide) ?_
    refine Wx_icmp_ge 46 dX14_feed_39 (by decide) (fun _ => ?_) (fun h => absurd (by decide) h)
    refine Wx_iload6 dX14_feed_46 ?_
    refine Wx_bipush (v := 12) dX14_feed_48 (by decide) ?_
    refine Wx_icmp_ge 57 dX14_feed_50 (by decide) (fun _ => ?_) (fun h => absurd (by decide) h)
    refine Wx_iload6 dX14_feed_57 ?_
    refine Wx_bipush (v := 16) dX14_feed_59 (by decide) ?_
    refine Wx_icmp_ge 69 dX14_feed_61 (by decide) (fun _ => ?_) (fun h => absurd (by decide) h)
    refine Wx_iload5 dX14_feed_69 ?_
    refine Wx_istore7 dX14_feed_71 rfl (Nat.le_of_ble_eq_true rfl) ?_
    refine Wx_aload0 dX14_feed_73 ?_
    refine Wx_getR 14 1 68 dX14_feed_74 f_X14_16 rfl (Nat.le_of_ble_eq_true rfl) rfl ((Rf_pA (Rf_pA (Rf_pA (Rf_pA (Rf_pA (Rf_pA (Rf_pA (Rf_pA (Rf_pA (Rf_pA (Rf_pA (Rf_pA (Rf_pA (Rf_pA (Rf_pA (Rf_pA hR)))))))))))))))) 66 1 68 (by decide)) ?_
    refine Wx_aload0 dX14_feed_77 ?_
    refine Wx_getI 14 2 dX14_feed_78 f_X14_158 rfl (Nat.le_of_ble_eq_true rfl) rfl ?_
    rw [show gI (pA (pA (pA (pA (pA (pA (pA (pA (pA (pA (pA (pA (pA (pA (pA (pA σ 68 t ((((a1 : Int32) >>> ((24 : Int32) &&& 31))).toInt8.toInt32 : Int32).toInt8.toInt32) 68 (t + 1) ((((a1 : Int32) >>> ((16 : Int32) &&& 31))).toInt8.toInt32 : Int32).toInt8.toInt32) 68 (t + 2) ((((a1 : Int32) >>> ((8 : Int32) &&& 31))).toInt8.toInt32 : Int32).toInt8.toInt32) 68 (t + 3) ((((a1 : Int32) >>> ((0 : Int32) &&& 31))).toInt8.toInt32 : Int32).toInt8.toInt32) 68 (t + 4) ((((a2 : Int32) >>> ((24 : Int32) &&& 31))).toInt8.toInt32 : Int32).toInt8.toInt32) 68 (t + 5) ((((a2 : Int32) >>> ((16 : Int32) &&& 31))).toInt8.toInt32 : Int32).toInt8.toInt32) 68 (t + 6) ((((a2 : Int32) >>> ((8 : Int32) &&& 31))).toInt8.toInt32 : Int32).toInt8.toInt32) 68 (t + 7) ((((a2 : Int32) >>> ((0 : Int32) &&& 31))).toInt8.toInt32 : Int32).toInt8.toInt32) 68 (t + 8) ((((a3 : Int32) >>> ((24 : Int32) &&& 31))).toInt8.toInt32 : Int32).toInt8.toInt32) 68 (t + 9) ((((a3 : Int32) >>> ((16 : Int32) &&& 31))).toInt8.toInt32 : Int32).toInt8.toInt32) 68 (t + 10) ((((a3 : Int32) >>> ((8 : Int32) &&& 31))).toInt8.toInt32 : Int32).toInt8.toInt32) 68 (t + 11) ((((a3 : Int32) >>> ((0 : Int32) &&& 31))).toInt8.toInt32 : Int32).toInt8.toInt32) 68 (t + 12) ((((a4 : Int32) >>> ((24 : Int32) &&& 31))).toInt8.toInt32 : Int32).toInt8.toInt32) 68 (t + 13) ((((a4 : Int32) >>> ((16 : Int32) &&& 31))).toInt8.toInt32 : Int32).toInt8.toInt32) 68 (t + 14) ((((a4 : Int32) >>> ((8 : Int32) &&& 31))).toInt8.toInt32 : Int32).toInt8.toInt32) 68 (t + 15) ((((a4 : Int32) >>> ((0 : Int32) &&& 31))).toInt8.toInt32 : Int32).toInt8.toInt32) 66 2 = (nI t) from (gI_pA.trans (gI_pA.trans (gI_pA.trans (gI_pA.trans (gI_pA.trans (gI_pA.trans (gI_pA.trans (gI_pA.trans (gI_pA.trans (gI_pA.trans (gI_pA.trans (gI_pA.trans (gI_pA.trans (gI_pA.trans (gI_pA.trans (gI_pA.trans et))))))))))))))))]
    refine Wx_iload6 dX14_feed_81 ?_
    refine Wx_iadd dX14_feed_83 ?_
    rw [show (((nI t) + 16) : Int32) = nI (t + 16) from addE (a := t) (b := 16) rfl rfl (by omega)]
    refine Wx_iload7 dX14_feed_84 ?_
    refine Wx_bipush (v := 8) dX14_feed_86 (by decide) ?_
    refine Wx_iconst (v := 3) dX14_feed_88 (by decide) ?_
    refine Wx_iload6 dX14_feed_89 ?_
    refine Wx_iconst (v := 4) dX14_feed_91 (by decide) ?_
    refine Wx_irem dX14_feed_92 (by decide) ?_
    rw [show ((16 - 16 / 4 * 4) : Int32) = 0 from by decide]
    refine Wx_isub dX14_feed_93 ?_
    rw [show ((3 - 0) : Int32) = 3 from by decide]
    refine Wx_imul dX14_feed_94 ?_
    rw [show ((8 * 3) : Int32) = 24 from by decide]
    refine Wx_ishr dX14_feed_95 ?_
    refine Wx_i2b dX14_feed_96 ?_
    refine Wx_bastore 4000 dX14_feed_97 rfl (Nat.le_of_ble_eq_true rfl) (vp_in_nI (show (t + 16) < 4000 by omega) (by decide)) ?_
    rw [show ((nI (t + 16)) : Int32).toNatClampNeg = (t + 16) from nI_clamp (by omega)]
    refine Wx_iinc6 dX14_feed_98 rfl (Nat.le_of_ble_eq_true rfl) ?_
    rw [show ((16 : Int32) + Int32.ofInt 1) = 17 from by decide]
    refine Wx_goto 18 dX14_feed_101 (by decide) ?_
    refine Wx_iload6 dX14_feed_18 ?_
    refine Wx_bipush (v := 20) dX14_feed_20 (by decide) ?_
    refine Wx_icmp_ge 104 dX14_feed_22 (by decide) (fun h => absurd h (by decide)) (fun _ => ?_)
    refine Wx_iload6 dX14_feed_25 ?_
    refine Wx_iconst (v := 4) dX14_feed_27 (by decide) ?_
    refine Wx_icmp_ge 35 dX14_feed_28 (by decide) (fun _ => ?_) (fun h => absurd (by decide) h)
    refine Wx_iload6 dX14_feed_35 ?_
    refine Wx_bipush (v := 8) dX14_feed_37 (by decide) ?_
    refine Wx_icmp_ge 46 dX14_feed_39 (by decide) (fun _ => ?_) (fun h => absurd (by decide) h)
    refine Wx_iload6 dX14_feed_46 ?_
    refine Wx_bipush (v := 12) dX14_feed_48 (by decide) ?_
    refine Wx_icmp_ge 57 dX14_feed_50 (by decide) (fun _ => ?_) (fun h => absurd (by decide) h)
    refine Wx_iload6 dX14_feed_57 ?_
    refine Wx_bipush (v := 16) dX14_feed_59 (by decide) ?_
    refine Wx_icmp_ge 69 dX14_feed_61 (by decide) (fun _ => ?_) (fun h => absurd (by decide) h)
    refine Wx_iload5 dX14_feed_69 ?_
    refine Wx_istore7 dX14_feed_71 rfl (Nat.le_of_ble_eq_true rfl) ?_
    refine Wx_aload0 dX14_feed_73 ?_
    refine Wx_getR 14 1 68 dX14_feed_74 f_X14_16 rfl (Nat.le_of_ble_eq_true rfl) rfl ((Rf_pA (Rf_pA (Rf_pA (Rf_pA (Rf_pA (Rf_pA (Rf_pA (Rf_pA (Rf_pA (Rf_pA (Rf_pA (Rf_pA (Rf_pA (Rf_pA (Rf_pA (Rf_pA (Rf_pA hR))))))))))))))))) 66 1 68 (by decide)) ?_
    refine Wx_aload0 dX14_feed_77 ?_
    refine Wx_getI 14 2 dX14_feed_78 f_X14_158 rfl (Nat.le_of_ble_eq_true rfl) rfl ?_
    rw [show gI (pA (pA (pA (pA (pA (pA (pA (pA (pA (pA (pA (pA (pA (pA (pA (pA (pA σ 68 t ((((a1 : Int32) >>> ((24 : Int32) &&& 31))).toInt8.toInt32 : Int32).toInt8.toInt32) 68 (t + 1) ((((a1 : Int32) >>> ((16 : Int32) &&& 31))).toInt8.toInt32 : Int32).toInt8.toInt32) 68 (t + 2) ((((a1 : Int32) >>> ((8 : Int32) &&& 31))).toInt8.toInt32 : Int32).toInt8.toInt32) 68 (t + 3) ((((a1 : Int32) >>> ((0 : Int32) &&& 31))).toInt8.toInt32 : Int32).toInt8.toInt32) 68 (t + 4) ((((a2 : Int32) >>> ((24 : Int32) &&& 31))).toInt8.toInt32 : Int32).toInt8.toInt32) 68 (t + 5) ((((a2 : Int32) >>> ((16 : Int32) &&& 31))).toInt8.toInt32 : Int32).toInt8.toInt32) 68 (t + 6) ((((a2 : Int32) >>> ((8 : Int32) &&& 31))).toInt8.toInt32 : Int32).toInt8.toInt32) 68 (t + 7) ((((a2 : Int32) >>> ((0 : Int32) &&& 31))).toInt8.toInt32 : Int32).toInt8.toInt32) 68 (t + 8) ((((a3 : Int32) >>> ((24 : Int32) &&& 31))).toInt8.toInt32 : Int32).toInt8.toInt32) 68 (t + 9) ((((a3 : Int32) >>> ((16 : Int32) &&& 31))).toInt8.toInt32 : Int32).toInt8.toInt32) 68 (t + 10) ((((a3 : Int32) >>> ((8 : Int32) &&& 31))).toInt8.toInt32 : Int32).toInt8.toInt32) 68 (t + 11) ((((a3 : Int32) >>> ((0 : Int32) &&& 31))).toInt8.toInt32 : Int32).toInt8.toInt32) 68 (t + 12) ((((a4 : Int32) >>> ((24 : Int32) &&& 31))).toInt8.toInt32 : Int32).toInt8.toInt32) 68 (t + 13) ((((a4 : Int32) >>> ((16 : Int32) &&& 31))).toInt8.toInt32 : Int32).toInt8.toInt32) 68 (t + 14) ((((a4 : Int32) >>> ((8 : Int32) &&& 31))).toInt8.toInt32 : Int32).toInt8.toInt32) 68 (t + 15) ((((a4 : Int32) >>> ((0 : Int32) &&& 31))).toInt8.toInt32 : Int32).toInt8.toInt32) 68 (t + 16) ((((a5 : Int32) >>> ((24 : Int32) &&& 31))).toInt8.toInt32 : Int32).toInt8.toInt32) 66 2 = (nI t) from (gI_pA.trans (gI_pA.trans (gI_pA.trans (gI_pA.trans (gI_pA.trans (gI_pA.trans (gI_pA.trans (gI_pA.trans (gI_pA.trans (gI_pA.trans (gI_pA.trans (gI_pA.trans (gI_pA.trans (gI_pA.trans (gI_pA.trans (gI_pA.trans (gI_pA.trans et)))))))))))))))))]
    refine Wx_iload6 dX14_feed_81 ?_
    refine Wx_iadd dX14_feed_83 ?_
    rw [show (((nI t) + 17) : Int32) = nI (t + 17) from addE (a := t) (b := 17) rfl rfl (by omega)]
    refine Wx_iload7 dX14_feed_84 ?_
    refine Wx_bipush (v := 8) dX14_feed_86 (by decide) ?_
    refine Wx_iconst (v := 3) dX14_feed_88 (by decide) ?_
    refine Wx_iload6 dX14_feed_89 ?_
    refine Wx_iconst (v := 4) dX14_feed_91 (by decide) ?_
    refine Wx_irem dX14_feed_92 (by decide) ?_
    rw [show ((17 - 17 / 4 * 4) : Int32) = 1 from by decide]
    refine Wx_isub dX14_feed_93 ?_
    rw [show ((3 - 1) : Int32) = 2 from by decide]
    refine Wx_imul dX14_feed_94 ?_
    rw [show ((8 * 2) : Int32) = 16 from by decide]
    refine Wx_ishr dX14_feed_95 ?_
    refine Wx_i2b dX14_feed_96 ?_
    refine Wx_bastore 4000 dX14_feed_97 rfl (Nat.le_of_ble_eq_true rfl) (vp_in_nI (show (t + 17) < 4000 by omega) (by decide)) ?_
    rw [show ((nI (t + 17)) : Int32).toNatClampNeg = (t + 17) from nI_clamp (by omega)]
    refine Wx_iinc6 dX14_feed_98 rfl (Nat.le_of_ble_eq_true rfl) ?_
    rw [show ((17 : Int32) + Int32.ofInt 1) = 18 from by decide]
    refine Wx_goto 18 dX14_feed_101 (by decide) ?_
    refine Wx_iload6 dX14_feed_18 ?_
    refine Wx_bipush (v := 20) dX14_feed_20 (by decide) ?_
    refine Wx_icmp_ge 104 dX14_feed_22 (by decide) (fun h => absurd h (by decide)) (fun _ => ?_)
    refine Wx_iload6 dX14_feed_25 ?_
    refine Wx_iconst (v := 4) dX14_feed_27 (by decide) ?_
    refine Wx_icmp_ge 35 dX14_feed_28 (by decide) (fun _ => ?_) (fun h => absurd (by decide) h)
    refine Wx_iload6 dX14_feed_35 ?_
    refine Wx_bipush (v := 8) dX14_feed_37 (by decide) ?_
    refine Wx_icmp_ge 46 dX14_feed_39 (by decide) (fun _ => ?_) (fun h => absurd (by decide) h)
    refine Wx_iload6 dX14_feed_46 ?_
    refine Wx_bipush (v := 12) dX14_feed_48 (by decide) ?_
    refine Wx_icmp_ge 57 dX14_feed_50 (by decide) (fun _ => ?_) (fun h => absurd (by decide) h)
    refine Wx_iload6 dX14_feed_57 ?_
    refine Wx_bipush (v := 16) dX14_feed_59 (by decide) ?_
    refine Wx_icmp_ge 69 dX14_feed_61 (by decide) (fun _ => ?_) (fun h => absurd (by decide) h)
    refine Wx_iload5 dX14_feed_69 ?_
    refine Wx_istore7 dX14_feed_71 rfl (Nat.le_of_ble_eq_true rfl) ?_
    refine Wx_aload0 dX14_feed_73 ?_
    refine Wx_getR 14 1 68 dX14_feed_74 f_X14_16 rfl (Nat.le_of_ble_eq_true rfl) rfl ((Rf_pA (Rf_pA (Rf_pA (Rf_pA (Rf_pA (Rf_pA (Rf_pA (Rf_pA (Rf_pA (Rf_pA (Rf_pA (Rf_pA (Rf_pA (Rf_pA (Rf_pA (Rf_pA (Rf_pA (Rf_pA hR)))))))))))))))))) 66 1 68 (by decide)) ?_
    refine Wx_aload0 dX14_feed_77 ?_
    refine Wx_getI 14 2 dX14_feed_78 f_X14_158 rfl (Nat.le_of_ble_eq_true rfl) rfl ?_
    rw [show gI (pA (pA (pA (pA (pA (pA (pA (pA (pA (pA (pA (pA (pA (pA (pA (pA (pA (pA σ 68 t ((((a1 : Int32) >>> ((24 : Int32) &&& 31))).toInt8.toInt32 : Int32).toInt8.toInt32) 68 (t + 1) ((((a1 : Int32) >>> ((16 : Int32) &&& 31))).toInt8.toInt32 : Int32).toInt8.toInt32) 68 (t + 2) ((((a1 : Int32) >>> ((8 : Int32) &&& 31))).toInt8.toInt32 : Int32).toInt8.toInt32) 68 (t + 3) ((((a1 : Int32) >>> ((0 : Int32) &&& 31))).toInt8.toInt32 : Int32).toInt8.toInt32) 68 (t + 4) ((((a2 : Int32) >>> ((24 : Int32) &&& 31))).toInt8.toInt32 : Int32).toInt8.toInt32) 68 (t + 5) ((((a2 : Int32) >>> ((16 : Int32) &&& 31))).toInt8.toInt32 : Int32).toInt8.toInt32) 68 (t + 6) ((((a2 : Int32) >>> ((8 : Int32) &&& 31))).toInt8.toInt32 : Int32).toInt8.toInt32) 68 (t + 7) ((((a2 : Int32) >>> ((0 : Int32) &&& 31))).toInt8.toInt32 : Int32).toInt8.toInt32) 68 (t + 8) ((((a3 : Int32) >>> ((24 : Int32) &&& 31))).toInt8.toInt32 : Int32).toInt8.toInt32) 68 (t + 9) ((((a3 : Int32) >>> ((16 : Int32) &&& 31))).toInt8.toInt32 : Int32).toInt8.toInt32) 68 (t + 10) ((((a3 : Int32) >>> ((8 : Int32) &&& 31))).toInt8.toInt32 : Int32).toInt8.toInt32) 68 (t + 11) ((((a3 : Int32) >>> ((0 : Int32) &&& 31))).toInt8.toInt32 : Int32).toInt8.toInt32) 68 (t + 12) ((((a4 : Int32) >>> ((24 : Int32) &&& 31))).toInt8.toInt32 : Int32).toInt8.toInt32) 68 (t + 13) ((((a4 : Int32) >>> ((16 : Int32) &&& 31))).toInt8.toInt32 : Int32).toInt8.toInt32) 68 (t + 14) ((((a4 : Int32) >>> ((8 : Int32) &&& 31))).toInt8.toInt32 : Int32).toInt8.toInt32) 68 (t + 15) ((((a4 : Int32) >>> ((0 : Int32) &&& 31))).toInt8.toInt32 : Int32).toInt8.toInt32) 68 (t + 16) ((((a5 : Int32) >>> ((24 : Int32) &&& 31))).toInt8.toInt32 : Int32).toInt8.toInt32) 68 (t + 17) ((((a5 : Int32) >>> ((16 : Int32) &&& 31))).toInt8.toInt32 : Int32).toInt8.toInt32) 66 2 = (nI t) from (gI_pA.trans (gI_pA.trans (gI_pA.trans (gI_pA.trans (gI_pA.trans (gI_pA.trans (gI_pA.trans (gI_pA.trans (gI_pA.trans (gI_pA.trans (gI_pA.trans (gI_pA.trans (gI_pA.trans (gI_pA.trans (gI_pA.trans (gI_pA.trans (gI_pA.trans (gI_pA.trans et))))))))))))))))))]
    refine Wx_iload6 dX14_feed_81 ?_
    refine Wx_iadd dX14_feed_83 ?_
    rw [show (((nI t) + 18) : Int32) = nI (t + 18) from addE (a := t) (b := 18) rfl rfl (by omega)]
    refine Wx_iload7 dX14_feed_84 ?_
    refine Wx_bipush (v := 8) dX14_feed_86 (by decide) ?_
    refine Wx_iconst (v := 3) dX14_feed_88 (by decide) ?_
    refine Wx_iload6 dX14_feed_89 ?_
    refine Wx_iconst (v := 4) dX14_feed_91 (by decide) ?_
    refine Wx_irem dX14_feed_92 (by decide) ?_
    rw [show ((18 - 18 / 4 * 4) : Int32) = 2 from by decide]
    refine Wx_isub dX14_feed_93 ?_
    rw [show ((3 - 2) : Int32) = 1 from by decide]
    refine Wx_imul dX14_feed_94 ?_
    rw [show ((8 * 1) : Int32) = 8 from by decide]
    refine Wx_ishr dX14_feed_95 ?_
    refine Wx_i2b dX14_feed_96 ?_
    refine Wx_bastore 4000 dX14_feed_97 rfl (Nat.le_of_ble_eq_true rfl) (vp_in_nI (show (t + 18) < 4000 by omega) (by decide)) ?_
    rw [show ((nI (t + 18)) : Int32).toNatClampNeg = (t + 18) from nI_clamp (by omega)]
    refine Wx_iinc6 dX14_feed_98 rfl (Nat.le_of_ble_eq_true rfl) ?_
    rw [show ((18 : Int32) + Int32.ofInt 1) = 19 from by decide]
    refine Wx_goto 18 dX14_feed_101 (by decide) ?_
    refine Wx_iload6 dX14_feed_18 ?_
    refine Wx_bipush (v := 20) dX14_feed_20 (by decide) ?_
    refine Wx_icmp_ge 104 dX14_feed_22 (by decide) (fun h => absurd h (by decide)) (fun _ => ?_)
    refine Wx_iload6 dX14_feed_25 ?_
    refine Wx_iconst (v := 4) dX14_feed_27 (by decide) ?_
    refine Wx_icmp_ge 35 dX14_feed_28 (by decide) (fun _ => ?_) (fun h => absurd (by decide) h)
    refine Wx_iload6 dX14_feed_35 ?_
    refine Wx_bipush (v := 8) dX14_feed_37 (by decide) ?_
    refine Wx_icmp_ge 46 dX14_feed_39 (by decide) (fun _ => ?_) (fun h => absurd (by decide) h)
    refine Wx_iload6 dX14_feed_46 ?_
    refine Wx_bipush (v := 12) dX14_feed_48 (by decide) ?_
    refine Wx_icmp_ge 57 dX14_feed_50 (by decide) (fun _ => ?_) (fun h => absurd (by decide) h)
    refine Wx_iload6 dX14_feed_57 ?_
    refine Wx_bipush (v := 16) dX14_feed_59 (by decide) ?_
    refine Wx_icmp_ge 69 dX14_feed_61 (by decide) (fun _ => ?_) (fun h => absurd (by decide) h)
    refine Wx_iload5 dX14_feed_69 ?_
    refine Wx_istore7 dX14_feed_71 rfl (Nat.le_of_ble_eq_true rfl) ?_
    refine Wx_aload0 dX14_feed_73 ?_
    refine Wx_getR 14 1 68 dX14_feed_74 f_X14_16 rfl (Nat.le_of_ble_eq_true rfl) rfl ((Rf_pA (Rf_pA (Rf_pA (Rf_pA (Rf_pA (Rf_pA (Rf_pA (Rf_pA (Rf_pA (Rf_pA (Rf_pA (Rf_pA (Rf_pA (Rf_pA (Rf_pA (Rf_pA (Rf_pA (Rf_pA (Rf_pA hR))))))))))))))))))) 66 1 68 (by decide)) ?_
    refine Wx_aload0 dX14_feed_77 ?_
    refine Wx_getI 14 2 dX14_feed_78 f_X14_158 rfl (Nat.le_of_ble_eq_true rfl) rfl ?_
    rw [show gI (pA (pA (pA (pA (pA (pA (pA (pA (pA (pA (pA (pA (pA (pA (pA (pA (pA (pA (pA σ 68 t ((((a1 : Int32) >>> ((24 : Int32) &&& 31))).toInt8.toInt32 : Int32).toInt8.toInt32) 68 (t + 1) ((((a1 : Int32) >>> ((16 : Int32) &&& 31))).toInt8.toInt32 : Int32).toInt8.toInt32) 68 (t + 2) ((((a1 : Int32) >>> ((8 : Int32) &&& 31))).toInt8.toInt32 : Int32).toInt8.toInt32) 68 (t + 3) ((((a1 : Int32) >>> ((0 : Int32) &&& 31))).toInt8.toInt32 : Int32).toInt8.toInt32) 68 (t + 4) ((((a2 : Int32) >>> ((24 : Int32) &&& 31))).toInt8.toInt32 : Int32).toInt8.toInt32) 68 (t + 5) ((((a2 : Int32) >>> ((16 : Int32) &&& 31))).toInt8.toInt32 : Int32).toInt8.toInt32) 68 (t + 6) ((((a2 : Int32) >>> ((8 : Int32) &&& 31))).toInt8.toInt32 : Int32).toInt8.toInt32) 68 (t + 7) ((((a2 : Int32) >>> ((0 : Int32) &&& 31))).toInt8.toInt32 : Int32).toInt8.toInt32) 68 (t + 8) ((((a3 : Int32) >>> ((24 : Int32) &&& 31))).toInt8.toInt32 : Int32).toInt8.toInt32) 68 (t + 9) ((((a3 : Int32) >>> ((16 : Int32) &&& 31))).toInt8.toInt32 : Int32).toInt8.toInt32) 68 (t + 10) ((((a3 : Int32) >>> ((8 : Int32) &&& 31))).toInt8.toInt32 : Int32).toInt8.toInt32) 68 (t + 11) ((((a3 : Int32) >>> ((0 : Int32) &&& 31))).toInt8.toInt32 : Int32).toInt8.toInt32) 68 (t + 12) ((((a4 : Int32) >>> ((24 : Int32) &&& 31))).toInt8.toInt32 : Int32).toInt8.toInt32) 68 (t + 13) ((((a4 : Int32) >>> ((16 : Int32) &&& 31))).toInt8.toInt32 : Int32).toInt8.toInt32) 68 (t + 14) ((((a4 : Int32) >>> ((8 : Int32) &&& 31))).toInt8.toInt32 : Int32).toInt8.toInt32) 68 (t + 15) ((((a4 : Int32) >>> ((0 : Int32) &&& 31))).toInt8.toInt32 : Int32).toInt8.toInt32) 68 (t + 16) ((((a5 : Int32) >>> ((24 : Int32) &&& 31))).toInt8.toInt32 : Int32).toInt8.toInt32) 68 (t + 17) ((((a5 : Int32) >>> ((16 : Int32) &&& 31))).toInt8.toInt32 : Int32).toInt8.toInt32) 68 (t + 18) ((((a5 : Int32) >>> ((8 : Int32) &&& 31))).toInt8.toInt32 : Int32).toInt8.toInt32) 66 2 = (nI t) from (gI_pA.trans (gI_pA.trans (gI_pA.trans (gI_pA.trans (gI_pA.trans (gI_pA.trans (gI_pA.trans (gI_pA.trans (gI_pA.trans (gI_pA.trans (gI_pA.trans (gI_pA.trans (gI_pA.trans (gI_pA.trans (gI_pA.trans (gI_pA.trans (gI_pA.trans (gI_pA.trans (gI_pA.trans et)))))))))))))))))))]
    refine Wx_iload6 dX14_feed_81 ?_
    refine Wx_iadd dX14_feed_83 ?_
    rw [show (((nI t) + 19) : Int32) = nI (t + 19) from addE (a := t) (b := 19) rfl rfl (by omega)]
    refine Wx_iload7 dX14_feed_84 ?_
    refine Wx_bipush (v := 8) dX14_feed_86 (by decide) ?_
    refine Wx_iconst (v := 3) dX14_feed_88 (by decide) ?_
    refine Wx_iload6 dX14_feed_89 ?_
    refine Wx_iconst (v := 4) dX14_feed_91 (by decide) ?_
    refine Wx_irem dX14_feed_92 (by decide) ?_
    rw [show ((19 - 19 / 4 * 4) : Int32) = 3 from by decide]
    refine Wx_isub dX14_feed_93 ?_
    rw [show ((3 - 3) : Int32) = 0 from by decide]
    refine Wx_imul dX14_feed_94 ?_
    rw [show ((8 * 0) : Int32) = 0 from by decide]
    refine Wx_ishr dX14_feed_95 ?_
    refine Wx_i2b dX14_feed_96 ?_
    refine Wx_bastore 4000 dX14_feed_97 rfl (Nat.le_of_ble_eq_true rfl) (vp_in_nI (show (t + 19) < 4000 by omega) (by decide)) ?_
    rw [show ((nI (t + 19)) : Int32).toNatClampNeg = (t + 19) from nI_clamp (by omega)]
    refine Wx_iinc6 dX14_feed_98 rfl (Nat.le_of_ble_eq_true rfl) ?_
    rw [show ((19 : Int32) + Int32.ofInt 1) = 20 from by decide]
    refine Wx_goto 18 dX14_feed_101 (by decide) ?_
    refine Wx_iload6 dX14_feed_18 ?_
    refine Wx_bipush (v := 20) dX14_feed_20 (by decide) ?_
    refine Wx_icmp_ge 104 dX14_feed_22 (by decide) (fun _ => ?_) (fun h => absurd (by decide) h)
    refine Wx_aload0 dX14_feed_104 ?_
    refine Wx_dup dX14_feed_105 rfl ?_
    refine Wx_getI 14 2 dX14_feed_106 f_X14_158 rfl (Nat.le_of_ble_eq_true rfl) rfl ?_
    rw [show gI (pA (pA (pA (pA (pA (pA (pA (pA (pA (pA (pA (pA (pA (pA (pA (pA (pA (pA (pA (pA σ 68 t ((((a1 : Int32) >>> ((24 : Int32) &&& 31))).toInt8.toInt32 : Int32).toInt8.toInt32) 68 (t + 1) ((((a1 : Int32) >>> ((16 : Int32) &&& 31))).toInt8.toInt32 : Int32).toInt8.toInt32) 68 (t + 2) ((((a1 : Int32) >>> ((8 : Int32) &&& 31))).toInt8.toInt32 : Int32).toInt8.toInt32) 68 (t + 3) ((((a1 : Int32) >>> ((0 : Int32) &&& 31))).toInt8.toInt32 : Int32).toInt8.toInt32) 68 (t + 4) ((((a2 : Int32) >>> ((24 : Int32) &&& 31))).toInt8.toInt32 : Int32).toInt8.toInt32) 68 (t + 5) ((((a2 : Int32) >>> ((16 : Int32) &&& 31))).toInt8.toInt32 : Int32).toInt8.toInt32) 68 (t + 6) ((((a2 : Int32) >>> ((8 : Int32) &&& 31))).toInt8.toInt32 : Int32).toInt8.toInt32) 68 (t + 7) ((((a2 : Int32) >>> ((0 : Int32) &&& 31))).toInt8.toInt32 : Int32).toInt8.toInt32) 68 (t + 8) ((((a3 : Int32) >>> ((24 : Int32) &&& 31))).toInt8.toInt32 : Int32).toInt8.toInt32) 68 (t + 9) ((((a3 : Int32) >>> ((16 : Int32) &&& 31))).toInt8.toInt32 : Int32).toInt8.toInt32) 68 (t + 10) ((((a3 : Int32) >>> ((8 : Int32) &&& 31))).toInt8.toInt32 : Int32).toInt8.toInt32) 68 (t + 11) ((((a3 : Int32) >>> ((0 : Int32) &&& 31))).toInt8.toInt32 : Int32).toInt8.toInt32) 68 (t + 12) ((((a4 : Int32) >>> ((24 : Int32) &&& 31))).toInt8.toInt32 : Int32).toInt8.toInt32) 68 (t + 13) ((((a4 : Int32) >>> ((16 : Int32) &&& 31))).toInt8.toInt32 : Int32).toInt8.toInt32) 68 (t + 14) ((((a4 : Int32) >>> ((8 : Int32) &&& 31))).toInt8.toInt32 : Int32).toInt8.toInt32) 68 (t + 15) ((((a4 : Int32) >>> ((0 : Int32) &&& 31))).toInt8.toInt32 : Int32).toInt8.toInt32) 68 (t + 16) ((((a5 : Int32) >>> ((24 : Int32) &&& 31))).toInt8.toInt32 : Int32).toInt8.toInt32) 68 (t + 17) ((((a5 : Int32) >>> ((16 : Int32) &&& 31))).toInt8.toInt32 : Int32).toInt8.toInt32) 68 (t + 18) ((((a5 : Int32) >>> ((8 : Int32) &&& 31))).toInt8.toInt32 : Int32).toInt8.toInt32) 68 (t + 19) ((((a5 : Int32) >>> ((0 : Int32) &&& 31))).toInt8.toInt32 : Int32).toInt8.toInt32) 66 2 = (nI t) from (gI_pA.trans (gI_pA.trans (gI_pA.trans (gI_pA.trans (gI_pA.trans (gI_pA.trans (gI_pA.trans (gI_pA.trans (gI_pA.trans (gI_pA.trans (gI_pA.trans (gI_pA.trans (gI_pA.trans (gI_pA.trans (gI_pA.trans (gI_pA.trans (gI_pA.trans (gI_pA.trans (gI_pA.trans (gI_pA.trans et))))))))))))))))))))]
    refine Wx_bipush (v := 20) dX14_feed_109 (by decide) ?_
    refine Wx_iadd dX14_feed_111 ?_
    rw [show (((nI t) + 20) : Int32) = nI (t + 20) from addE (a := t) (b := 20) rfl rfl (by omega)]
    refine Wx_putI 14 2 dX14_feed_112 f_X14_158 rfl (Nat.le_of_ble_eq_true rfl) rfl rfl ?_
    refine Wx_aload0 dX14_feed_115 ?_
    refine Wx_getI 14 2 dX14_feed_116 f_X14_158 rfl (Nat.le_of_ble_eq_true rfl) rfl ?_
    rw [show gI (pI (pA (pA (pA (pA (pA (pA (pA (pA (pA (pA (pA (pA (pA (pA (pA (pA (pA (pA (pA (pA σ 68 t ((((a1 : Int32) >>> ((24 : Int32) &&& 31))).toInt8.toInt32 : Int32).toInt8.toInt32) 68 (t + 1) ((((a1 : Int32) >>> ((16 : Int32) &&& 31))).toInt8.toInt32 : Int32).toInt8.toInt32) 68 (t + 2) ((((a1 : Int32) >>> ((8 : Int32) &&& 31))).toInt8.toInt32 : Int32).toInt8.toInt32) 68 (t + 3) ((((a1 : Int32) >>> ((0 : Int32) &&& 31))).toInt8.toInt32 : Int32).toInt8.toInt32) 68 (t + 4) ((((a2 : Int32) >>> ((24 : Int32) &&& 31))).toInt8.toInt32 : Int32).toInt8.toInt32) 68 (t + 5) ((((a2 : Int32) >>> ((16 : Int32) &&& 31))).toInt8.toInt32 : Int32).toInt8.toInt32) 68 (t + 6) ((((a2 : Int32) >>> ((8 : Int32) &&& 31))).toInt8.toInt32 : Int32).toInt8.toInt32) 68 (t + 7) ((((a2 : Int32) >>> ((0 : Int32) &&& 31))).toInt8.toInt32 : Int32).toInt8.toInt32) 68 (t + 8) ((((a3 : Int32) >>> ((24 : Int32) &&& 31))).toInt8.toInt32 : Int32).toInt8.toInt32) 68 (t + 9) ((((a3 : Int32) >>> ((16 : Int32) &&& 31))).toInt8.toInt32 : Int32).toInt8.toInt32) 68 (t + 10) ((((a3 : Int32) >>> ((8 : Int32) &&& 31))).toInt8.toInt32 : Int32).toInt8.toInt32) 68 (t + 11) ((((a3 : Int32) >>> ((0 : Int32) &&& 31))).toInt8.toInt32 : Int32).toInt8.toInt32) 68 (t + 12) ((((a4 : Int32) >>> ((24 : Int32) &&& 31))).toInt8.toInt32 : Int32).toInt8.toInt32) 68 (t + 13) ((((a4 : Int32) >>> ((16 : Int32) &&& 31))).toInt8.toInt32 : Int32).toInt8.toInt32) 68 (t + 14) ((((a4 : Int32) >>> ((8 : Int32) &&& 31))).toInt8.toInt32 : Int32).toInt8.toInt32) 68 (t + 15) ((((a4 : Int32) >>> ((0 : Int32) &&& 31))).toInt8.toInt32 : Int32).toInt8.toInt32) 68 (t + 16) ((((a5 : Int32) >>> ((24 : Int32) &&& 31))).toInt8.toInt32 : Int32).toInt8.toInt32) 68 (t + 17) ((((a5 : Int32) >>> ((16 : Int32) &&& 31))).toInt8.toInt32 : Int32).toInt8.toInt32) 68 (t + 18) ((((a5 : Int32) >>> ((8 : Int32) &&& 31))).toInt8.toInt32 : Int32).toInt8.toInt32) 68 (t + 19) ((((a5 : Int32) >>> ((0 : Int32) &&& 31))).toInt8.toInt32 : Int32).toInt8.toInt32) 66 2 (nI (t + 20))) 66 2 = (nI (t + 20)) from gI_pIs]
    exact Wx_ireturn dX14_feed_119 rfl rfl (⟨by rw [r_feedM, if_pos h1], by rw [t_feedM, if_pos h1]⟩)
  · replace h1 : ¬ (t + 20) ≤ 4000 := fun q => h1 ((cLe (a := (t + 20)) (b := 4000) rfl rfl (by omega) (by omega)).mpr q)
    refine Wx_iconst (v := (-1)) dX14_feed_13 (by decide) ?_
    exact Wx_ireturn dX14_feed_14 rfl rfl (⟨by rw [r_feedM, if_neg h1], by rw [t_feedM, if_neg h1]⟩)
theorem dX7_writeWord_0 : decode cX7_writeWord 0 = .ok (.aload_n 0, 1) := by decide +kernel
theorem dX7_writeWord_1 : decode cX7_writeWord 1 = .ok (.getfield 34, 3) := by decide +kernel
theorem dX7_writeWord_4 : decode cX7_writeWord 4 = .ok (.iload_n 1, 1) := by decide +kernel
theorem dX7_writeWord_5 : decode cX7_writeWord 5 = .ok (.iload_n 2, 1) := by decide +kernel
theorem dX7_writeWord_6 : decode cX7_writeWord 6 = .ok (.i2b, 1) := by decide +kernel
theorem dX7_writeWord_7 : decode cX7_writeWord 7 = .ok (.bastore, 1) := by decide +kernel
theorem dX7_writeWord_8 : decode cX7_writeWord 8 = .ok (.aload_n 0, 1) := by decide +kernel
theorem dX7_writeWord_9 : decode cX7_writeWord 9 = .ok (.getfield 34, 3) := by decide +kernel
theorem dX7_writeWord_12 : decode cX7_writeWord 12 = .ok (.iload_n 1, 1) := by decide +kernel
theorem dX7_writeWord_13 : decode cX7_writeWord 13 = .ok (.iconst 1, 1) := by decide +kernel
theorem dX7_writeWord_14 : decode cX7_writeWord 14 = .ok (.iadd, 1) := by decide +kernel
theorem dX7_writeWord_15 : decode cX7_writeWord 15 = .ok (.iload_n 2, 1) := by decide +kernel
theorem dX7_writeWord_16 : decode cX7_writeWord 16 = .ok (.bipush 8, 2) := by decide +kernel
theorem dX7_writeWord_18 : decode cX7_writeWord 18 = .ok (.ishr, 1) := by decide +kernel
theorem dX7_writeWord_19 : decode cX7_writeWord 19 = .ok (.i2b, 1) := by decide +kernel
theorem dX7_writeWord_20 : decode cX7_writeWord 20 = .ok (.bastore, 1) := by decide +kernel
theorem dX7_writeWord_21 : decode cX7_writeWord 21 = .ok (.aload_n 0, 1) := by decide +kernel
theorem dX7_writeWord_22 : decode cX7_writeWord 22 = .ok (.getfield 34, 3) := by decide +kernel
theorem dX7_writeWord_25 : decode cX7_writeWord 25 = .ok (.iload_n 1, 1) := by decide +kernel
theorem dX7_writeWord_26 : decode cX7_writeWord 26 = .ok (.iconst 2, 1) := by decide +kernel
theorem dX7_writeWord_27 : decode cX7_writeWord 27 = .ok (.iadd, 1) := by decide +kernel
theorem dX7_writeWord_28 : decode cX7_writeWord 28 = .ok (.iload_n 2, 1) := by decide +kernel
theorem dX7_writeWord_29 : decode cX7_writeWord 29 = .ok (.bipush 16, 2) := by decide +kernel
theorem dX7_writeWord_31 : decode cX7_writeWord 31 = .ok (.ishr, 1) := by decide +kernel
theorem dX7_writeWord_32 : decode cX7_writeWord 32 = .ok (.i2b, 1) := by decide +kernel
theorem dX7_writeWord_33 : decode cX7_writeWord 33 = .ok (.bastore, 1) := by decide +kernel
theorem dX7_writeWord_34 : decode cX7_writeWord 34 = .ok (.aload_n 0, 1) := by decide +kernel
theorem dX7_writeWord_35 : decode cX7_writeWord 35 = .ok (.getfield 34, 3) := by decide +kernel
theorem dX7_writeWord_38 : decode cX7_writeWord 38 = .ok (.iload_n 1, 1) := by decide +kernel
theorem dX7_writeWord_39 : decode cX7_writeWord 39 = .ok (.iconst 3, 1) := by decide +kernel
theorem dX7_writeWord_40 : decode cX7_writeWord 40 = .ok (.iadd, 1) := by decide +kernel
theorem dX7_writeWord_41 : decode cX7_writeWord 41 = .ok (.iload_n 2, 1) := by decide +kernel
theorem dX7_writeWord_42 : decode cX7_writeWord 42 = .ok (.bipush 24, 2) := by decide +kernel
theorem dX7_writeWord_44 : decode cX7_writeWord 44 = .ok (.ishr, 1) := by decide +kernel
theorem dX7_writeWord_45 : decode cX7_writeWord 45 = .ok (.i2b, 1) := by decide +kernel
theorem dX7_writeWord_46 : decode cX7_writeWord 46 = .ok (.bastore, 1) := by decide +kernel
theorem dX7_writeWord_47 : decode cX7_writeWord 47 = .ok (.return_, 1) := by decide +kernel
def t_wW (σ : Hp) (p : Nat) (v : Int32) : Hp := (pA (pA (pA (pA σ 54 p ((v).toInt8.toInt32 : Int32).toInt8.toInt32) 54 (p + 1) ((((v : Int32) >>> ((8 : Int32) &&& 31))).toInt8.toInt32 : Int32).toInt8.toInt32) 54 (p + 2) ((((v : Int32) >>> ((16 : Int32) &&& 31))).toInt8.toInt32 : Int32).toInt8.toInt32) 54 (p + 3) ((((v : Int32) >>> ((24 : Int32) &&& 31))).toInt8.toInt32 : Int32).toInt8.toInt32)
theorem k_wW (σ : Hp) (p : Nat) (v : Int32) : (t_wW σ p v).2.1 = σ.2.1 := by
  unfold t_wW
  simp only [apply_ite Prod.snd, apply_ite (Prod.fst (α := Nat → Nat → Option Nat) (β := (Nat → Nat → Int32) × (Nat → Nat → Int64))), R_pI, R_pI, R_pA, R_pL, R_rA, ite_self]
theorem w_wW (d : Nat) (σ : Hp) (p : Nat) (v : Int32) (hR : Rf σ) (hp : p + 4 ≤ 65536) : Cx yX7_writeWord cX7_writeWord 3 none (d) 122 122 [.ref 50, .int (nI p), .int v] σ (fun o τ => o = .inl none ∧ τ = t_wW σ p v) := by
  refine Cx_of RX7 false (by decide) rfl (fun q => by cases q) (Nat.le_refl _) rfl (Nat.le_of_ble_eq_true rfl) ?_
  refine Wx_aload0 dX7_writeWord_0 ?_
  refine Wx_getR 7 4 54 dX7_writeWord_1 f_X7_34 rfl (Nat.le_of_ble_eq_true rfl) rfl (hR 50 4 54 (by decide)) ?_
  refine Wx_iload1 dX7_writeWord_4 ?_
  refine Wx_iload2 dX7_writeWord_5 ?_
  refine Wx_i2b dX7_writeWord_6 ?_
  refine Wx_bastore 65536 dX7_writeWord_7 rfl (Nat.le_of_ble_eq_true rfl) (vp_in_nI (show p < 65536 by omega) (by decide)) ?_
  rw [show ((nI p) : Int32).toNatClampNeg = p from nI_clamp (by omega)]
  refine Wx_aload0 dX7_writeWord_8 ?_
  refine Wx_getR 7 4 54 dX7_writeWord_9 f_X7_34 rfl (Nat.le_of_ble_eq_true rfl) rfl ((Rf_pA hR) 50 4 54 (by decide)) ?_
  refine Wx_iload1 dX7_writeWord_12 ?_
  refine Wx_iconst (v := 1) dX7_writeWord_13 (by decide) ?_
  refine Wx_iadd dX7_writeWord_14 ?_
  rw [show (((nI p) + 1) : Int32) = nI (p + 1) from addE (a := p) (b := 1) rfl rfl (by omega)]
  refine Wx_iload2 dX7_writeWord_15 ?_
  refine Wx_bipush (v := 8) dX7_writeWord_16 (by decide) ?_
  refine Wx_ishr dX7_writeWord_18 ?_
  refine Wx_i2b dX7_writeWord_19 ?_
  refine Wx_bastore 65536 dX7_writeWord_20 rfl (Nat.le_of_ble_eq_true rfl) (vp_in_nI (show (p + 1) < 65536 by omega) (by decide)) ?_
  rw [show ((nI (p + 1)) : Int32).toNatClampNeg = (p + 1) from nI_clamp (by omega)]
  refine Wx_aload0 dX7_writeWord_21 ?_
  refine Wx_getR 7 4 54 dX7_writeWord_22 f_X7_34 rfl (Nat.le_of_ble_eq_true rfl) rfl ((Rf_pA (Rf_pA hR)) 50 4 54 (by decide)) ?_
  refine Wx_iload1 dX7_writeWord_25 ?_
  refine Wx_iconst (v := 2) dX7_writeWord_26 (by decide) ?_
  refine Wx_iadd dX7_writeWord_27 ?_
  rw [show (((nI p) + 2) : Int32) = nI (p + 2) from addE (a := p) (b := 2) rfl rfl (by omega)]
  refine Wx_iload2 dX7_writeWord_28 ?_
  refine Wx_bipush (v := 16) dX7_writeWord_29 (by decide) ?_
  refine Wx_ishr dX7_writeWord_31 ?_
  refine Wx_i2b dX7_writeWord_32 ?_
  refine Wx_bastore 65536 dX7_writeWord_33 rfl (Nat.le_of_ble_eq_true rfl) (vp_in_nI (show (p + 2) < 65536 by omega) (by decide)) ?_
  rw [show ((nI (p + 2)) : Int32).toNatClampNeg = (p + 2) from nI_clamp (by omega)]
  refine Wx_aload0 dX7_writeWord_34 ?_
  refine Wx_getR 7 4 54 dX7_writeWord_35 f_X7_34 rfl (Nat.le_of_ble_eq_true rfl) rfl ((Rf_pA (Rf_pA (Rf_pA hR))) 50 4 54 (by decide)) ?_
  refine Wx_iload1 dX7_writeWord_38 ?_
  refine Wx_iconst (v := 3) dX7_writeWord_39 (by decide) ?_
  refine Wx_iadd dX7_writeWord_40 ?_
  rw [show (((nI p) + 3) : Int32) = nI (p + 3) from addE (a := p) (b := 3) rfl rfl (by omega)]
  refine Wx_iload2 dX7_writeWord_41 ?_
  refine Wx_bipush (v := 24) dX7_writeWord_42 (by decide) ?_
  refine Wx_ishr dX7_writeWord_44 ?_
  refine Wx_i2b dX7_writeWord_45 ?_
  refine Wx_bastore 65536 dX7_writeWord_46 rfl (Nat.le_of_ble_eq_true rfl) (vp_in_nI (show (p + 3) < 65536 by omega) (by decide)) ?_
  rw [show ((nI (p + 3)) : Int32).toNatClampNeg = (p + 3) from nI_clamp (by omega)]
  exact Wx_return dX7_writeWord_47 rfl rfl (⟨rfl, by rw [t_wW]⟩)
theorem dX7_readWord_0 : decode cX7_readWord 0 = .ok (.aload_n 0, 1) := by decide +kernel
theorem dX7_readWord_1 : decode cX7_readWord 1 = .ok (.getfield 34, 3) := by decide +kernel
theorem dX7_readWord_4 : decode cX7_readWord 4 = .ok (.iload_n 1, 1) := by decide +kernel
theorem dX7_readWord_5 : decode cX7_readWord 5 = .ok (.baload, 1) := by decide +kernel
theorem dX7_readWord_6 : decode cX7_readWord 6 = .ok (.sipush 255, 3) := by decide +kernel
theorem dX7_readWord_9 : decode cX7_readWord 9 = .ok (.iand, 1) := by decide +kernel
theorem dX7_readWord_10 : decode cX7_readWord 10 = .ok (.aload_n 0, 1) := by decide +kernel
theorem dX7_readWord_11 : decode cX7_readWord 11 = .ok (.getfield 34, 3) := by decide +kernel
theorem dX7_readWord_14 : decode cX7_readWord 14 = .ok (.iload_n 1, 1) := by decide +kernel
theorem dX7_readWord_15 : decode cX7_readWord 15 = .ok (.iconst 1, 1) := by decide +kernel
theorem dX7_readWord_16 : decode cX7_readWord 16 = .ok (.iadd, 1) := by decide +kernel
theorem dX7_readWord_17 : decode cX7_readWord 17 = .ok (.baload, 1) := by decide +kernel
theorem dX7_readWord_18 : decode cX7_readWord 18 = .ok (.sipush 255, 3) := by decide +kernel
theorem dX7_readWord_21 : decode cX7_readWord 21 = .ok (.iand, 1) := by decide +kernel
theorem dX7_readWord_22 : decode cX7_readWord 22 = .ok (.bipush 8, 2) := by decide +kernel
theorem dX7_readWord_24 : decode cX7_readWord 24 = .ok (.ishl, 1) := by decide +kernel
theorem dX7_readWord_25 : decode cX7_readWord 25 = .ok (.ior, 1) := by decide +kernel
theorem dX7_readWord_26 : decode cX7_readWord 26 = .ok (.aload_n 0, 1) := by decide +kernel
theorem dX7_readWord_27 : decode cX7_readWord 27 = .ok (.getfield 34, 3) := by decide +kernel
theorem dX7_readWord_30 : decode cX7_readWord 30 = .ok (.iload_n 1, 1) := by decide +kernel
theorem dX7_readWord_31 : decode cX7_readWord 31 = .ok (.iconst 2, 1) := by decide +kernel
theorem dX7_readWord_32 : decode cX7_readWord 32 = .ok (.iadd, 1) := by decide +kernel
theorem dX7_readWord_33 : decode cX7_readWord 33 = .ok (.baload, 1) := by decide +kernel
theorem dX7_readWord_34 : decode cX7_readWord 34 = .ok (.sipush 255, 3) := by decide +kernel
theorem dX7_readWord_37 : decode cX7_readWord 37 = .ok (.iand, 1) := by decide +kernel
theorem dX7_readWord_38 : decode cX7_readWord 38 = .ok (.bipush 16, 2) := by decide +kernel
theorem dX7_readWord_40 : decode cX7_readWord 40 = .ok (.ishl, 1) := by decide +kernel
theorem dX7_readWord_41 : decode cX7_readWord 41 = .ok (.ior, 1) := by decide +kernel
theorem dX7_readWord_42 : decode cX7_readWord 42 = .ok (.aload_n 0, 1) := by decide +kernel
theorem dX7_readWord_43 : decode cX7_readWord 43 = .ok (.getfield 34, 3) := by decide +kernel
theorem dX7_readWord_46 : decode cX7_readWord 46 = .ok (.iload_n 1, 1) := by decide +kernel
theorem dX7_readWord_47 : decode cX7_readWord 47 = .ok (.iconst 3, 1) := by decide +kernel
theorem dX7_readWord_48 : decode cX7_readWord 48 = .ok (.iadd, 1) := by decide +kernel
theorem dX7_readWord_49 : decode cX7_readWord 49 = .ok (.baload, 1) := by decide +kernel
theorem dX7_readWord_50 : decode cX7_readWord 50 = .ok (.bipush 24, 2) := by decide +kernel
theorem dX7_readWord_52 : decode cX7_readWord 52 = .ok (.ishl, 1) := by decide +kernel
theorem dX7_readWord_53 : decode cX7_readWord 53 = .ok (.ior, 1) := by decide +kernel
theorem dX7_readWord_54 : decode cX7_readWord 54 = .ok (.ireturn, 1) := by decide +kernel
def r_rW (σ : Hp) (p : Nat) : Int32 := (((((((((gA σ 54 p) : Int32) &&& 255) : Int32) ||| (((((gA σ 54 (p + 1)) : Int32) &&& 255) : Int32) <<< ((8 : Int32) &&& 31))) : Int32) ||| (((((gA σ 54 (p + 2)) : Int32) &&& 255) : Int32) <<< ((16 : Int32) &&& 31))) : Int32) ||| (((gA σ 54 (p + 3)) : Int32) <<< ((24 : Int32) &&& 31)))
theorem w_rW (d : Nat) (σ : Hp) (p : Nat) (hR : Rf σ) (hp : p + 4 ≤ 65536) : Cx yX7_readWord cX7_readWord 2 (some .int) (d) 122 122 [.ref 50, .int (nI p)] σ (fun o τ => o = .inl (some (.int (r_rW σ p))) ∧ τ = σ) := by
  refine Cx_of RX7 false (by decide) rfl (fun q => by cases q) (Nat.le_refl _) rfl (Nat.le_of_ble_eq_true rfl) ?_
  refine Wx_aload0 dX7_readWord_0 ?_
  refine Wx_getR 7 4 54 dX7_readWord_1 f_X7_34 rfl (Nat.le_of_ble_eq_true rfl) rfl (hR 50 4 54 (by decide)) ?_
  refine Wx_iload1 dX7_readWord_4 ?_
  refine Wx_baload 65536 dX7_readWord_5 rfl (Nat.le_of_ble_eq_true rfl) (vp_in_nI (show p < 65536 by omega) (by decide)) ?_
  rw [show ((nI p) : Int32).toNatClampNeg = p from nI_clamp (by omega)]
  refine Wx_sipush (v := 255) dX7_readWord_6 (by decide) ?_
  refine Wx_iand dX7_readWord_9 ?_
  refine Wx_aload0 dX7_readWord_10 ?_
  refine Wx_getR 7 4 54 dX7_readWord_11 f_X7_34 rfl (Nat.le_of_ble_eq_true rfl) rfl (hR 50 4 54 (by decide)) ?_
  refine Wx_iload1 dX7_readWord_14 ?_
  refine Wx_iconst (v := 1) dX7_readWord_15 (by decide) ?_
  refine Wx_iadd dX7_readWord_16 ?_
  rw [show (((nI p) + 1) : Int32) = nI (p + 1) from addE (a := p) (b := 1) rfl rfl (by omega)]
  refine Wx_baload 65536 dX7_readWord_17 rfl (Nat.le_of_ble_eq_true rfl) (vp_in_nI (show (p + 1) < 65536 by omega) (by decide)) ?_
  rw [show ((nI (p + 1)) : Int32).toNatClampNeg = (p + 1) from nI_clamp (by omega)]
  refine Wx_sipush (v := 255) dX7_readWord_18 (by decide) ?_
  refine Wx_iand dX7_readWord_21 ?_
  refine Wx_bipush (v := 8) dX7_readWord_22 (by decide) ?_
  refine Wx_ishl dX7_readWord_24 ?_
  refine Wx_ior dX7_readWord_25 ?_
  refine Wx_aload0 dX7_readWord_26 ?_
  refine Wx_getR 7 4 54 dX7_readWord_27 f_X7_34 rfl (Nat.le_of_ble_eq_true rfl) rfl (hR 50 4 54 (by decide)) ?_
  refine Wx_iload1 dX7_readWord_30 ?_
  refine Wx_iconst (v := 2) dX7_readWord_31 (by decide) ?_
  refine Wx_iadd dX7_readWord_32 ?_
  rw [show (((nI p) + 2) : Int32) = nI (p + 2) from addE (a := p) (b := 2) rfl rfl (by omega)]
  refine Wx_baload 65536 dX7_readWord_33 rfl (Nat.le_of_ble_eq_true rfl) (vp_in_nI (show (p + 2) < 65536 by omega) (by decide)) ?_
  rw [show ((nI (p + 2)) : Int32).toNatClampNeg = (p + 2) from nI_clamp (by omega)]
  refine Wx_sipush (v := 255) dX7_readWord_34 (by decide) ?_
  refine Wx_iand dX7_readWord_37 ?_
  refine Wx_bipush (v := 16) dX7_readWord_38 (by decide) ?_
  refine Wx_ishl dX7_readWord_40 ?_
  refine Wx_ior dX7_readWord_41 ?_
  refine Wx_aload0 dX7_readWord_42 ?_
  refine Wx_getR 7 4 54 dX7_readWord_43 f_X7_34 rfl (Nat.le_of_ble_eq_true rfl) rfl (hR 50 4 54 (by decide)) ?_
  refine Wx_iload1 dX7_readWord_46 ?_
  refine Wx_iconst (v := 3) dX7_readWord_47 (by decide) ?_
  refine Wx_iadd dX7_readWord_48 ?_
  rw [show (((nI p) + 3) : Int32) = nI (p + 3) from addE (a := p) (b := 3) rfl rfl (by omega)]
  refine Wx_baload 65536 dX7_readWord_49 rfl (Nat.le_of_ble_eq_true rfl) (vp_in_nI (show (p + 3) < 65536 by omega) (by decide)) ?_
  rw [show ((nI (p + 3)) : Int32).toNatClampNeg = (p + 3) from nI_clamp (by omega)]
  refine Wx_bipush (v := 24) dX7_readWord_50 (by decide) ?_
  refine Wx_ishl dX7_readWord_52 ?_
  refine Wx_ior dX7_readWord_53 ?_
  exact Wx_ireturn dX7_readWord_54 rfl rfl (⟨by rw [r_rW], rfl⟩)
theorem dX14_dataPut_0 : decode cX14_dataPut 0 = .ok (.iconst 0, 1) := by decide +kernel
theorem dX14_dataPut_1 : decode cX14_dataPut 1 = .ok (.istore_n 3, 1) := by decide +kernel
theorem dX14_dataPut_2 : decode cX14_dataPut 2 = .ok (.iload_n 3, 1) := by decide +kernel
theorem dX14_dataPut_3 : decode cX14_dataPut 3 = .ok (.iconst 4, 1) := by decide +kernel
theorem dX14_dataPut_4 : decode cX14_dataPut 4 = .ok (.if_icmp .ge 28, 3) := by decide +kernel
theorem dX14_dataPut_7 : decode cX14_dataPut 7 = .ok (.aload_n 0, 1) := by decide +kernel
theorem dX14_dataPut_8 : decode cX14_dataPut 8 = .ok (.getfield 122, 3) := by decide +kernel
theorem dX14_dataPut_11 : decode cX14_dataPut 11 = .ok (.iload_n 1, 1) := by decide +kernel
theorem dX14_dataPut_12 : decode cX14_dataPut 12 = .ok (.ldc_w 409, 3) := by decide +kernel
theorem dX14_dataPut_15 : decode cX14_dataPut 15 = .ok (.isub, 1) := by decide +kernel
theorem dX14_dataPut_16 : decode cX14_dataPut 16 = .ok (.iload_n 3, 1) := by decide +kernel
theorem dX14_dataPut_17 : decode cX14_dataPut 17 = .ok (.iadd, 1) := by decide +kernel
theorem dX14_dataPut_18 : decode cX14_dataPut 18 = .ok (.iload_n 2, 1) := by decide +kernel
theorem dX14_dataPut_19 : decode cX14_dataPut 19 = .ok (.bipush 8, 2) := by decide +kernel
theorem dX14_dataPut_21 : decode cX14_dataPut 21 = .ok (.iload_n 3, 1) := by decide +kernel
theorem dX14_dataPut_22 : decode cX14_dataPut 22 = .ok (.imul, 1) := by decide +kernel
theorem dX14_dataPut_23 : decode cX14_dataPut 23 = .ok (.ishr, 1) := by decide +kernel
theorem dX14_dataPut_24 : decode cX14_dataPut 24 = .ok (.i2b, 1) := by decide +kernel
theorem dX14_dataPut_25 : decode cX14_dataPut 25 = .ok (.bastore, 1) := by decide +kernel
theorem dX14_dataPut_26 : decode cX14_dataPut 26 = .ok (.iinc 3 1, 3) := by decide +kernel
theorem dX14_dataPut_29 : decode cX14_dataPut 29 = .ok (.goto (-27), 3) := by decide +kernel
theorem dX14_dataPut_32 : decode cX14_dataPut 32 = .ok (.return_, 1) := by decide +kernel
def t_wWM (σ : Hp) (p : Nat) (v : Int32) : Hp := (pA (pA (pA (pA σ 112 p ((((v : Int32) >>> ((0 : Int32) &&& 31))).toInt8.toInt32 : Int32).toInt8.toInt32) 112 (p + 1) ((((v : Int32) >>> ((8 : Int32) &&& 31))).toInt8.toInt32 : Int32).toInt8.toInt32) 112 (p + 2) ((((v : Int32) >>> ((16 : Int32) &&& 31))).toInt8.toInt32 : Int32).toInt8.toInt32) 112 (p + 3) ((((v : Int32) >>> ((24 : Int32) &&& 31))).toInt8.toInt32 : Int32).toInt8.toInt32)
theorem k_wWM (σ : Hp) (p : Nat) (v : Int32) : (t_wWM σ p v).2.1 = σ.2.1 := by
  unfold t_wWM
  simp only [apply_ite Prod.snd, apply_ite (Prod.fst (α := Nat → Nat → Option Nat) (β := (Nat → Nat → Int32) × (Nat → Nat → Int64))), R_pI, R_pI, R_pA, R_pL, R_rA, ite_self]
theorem w_wWM (d : Nat) (σ : Hp) (p : Nat) (v : Int32) (hR : Rf σ) (hp : p + 4 ≤ 65536) : Cx yX14_dataPut cX14_dataPut 4 none (d) 122 122 [.ref 66, .int (nI (p + 131072)), .int v] σ (fun o τ => o = .inl none ∧ τ = t_wWM σ p v) := by
  refine Cx_of RX14 false (by decide) rfl (fun q => by cases q) (Nat.le_refl _) rfl (Nat.le_of_ble_eq_true rfl) ?_
  refine Wx_iconst (v := 0) dX14_dataPut_0 (by decide) ?_
  refine Wx_istore3 dX14_dataPut_1 rfl (Nat.le_of_ble_eq_true rfl) ?_
  refine Wx_iload3 dX14_dataPut_2 ?_
  refine Wx_iconst (v := 4) dX14_dataPut_3 (by decide) ?_
  refine Wx_icmp_ge 32 dX14_dataPut_4 (by decide) (fun h => absurd h (by decide)) (fun _ => ?_)
  refine Wx_aload0 dX14_dataPut_7 ?_
  refine Wx_getR 14 51 112 dX14_dataPut_8 f_X14_122 rfl (Nat.le_of_ble_eq_true rfl) rfl (hR 66 51 112 (by decide)) ?_
  refine Wx_iload1 dX14_dataPut_11 ?_
  refine Wx_ldcw dX14_dataPut_12 k_X14_409 ?_
  refine Wx_isub dX14_dataPut_15 ?_
  rw [show (((nI (p + 131072)) - 131072) : Int32) = nI p from subE (a := (p + 131072)) (b := 131072) rfl rfl (by omega)]
  refine Wx_iload3 dX14_dataPut_16 ?_
  refine Wx_iadd dX14_dataPut_17 ?_
  rw [show (((nI p) + 0) : Int32) = nI p from addE (a := p) (b := 0) rfl rfl (by omega)]
  refine Wx_iload2 dX14_dataPut_18 ?_
  refine Wx_bipush (v := 8) dX14_dataPut_19 (by decide) ?_
  refine Wx_iload3 dX14_dataPut_21 ?_
  refine Wx_imul dX14_dataPut_22 ?_
  rw [show ((8 * 0) : Int32) = 0 from by decide]
  refine Wx_ishr dX14_dataPut_23 ?_
  refine Wx_i2b dX14_dataPut_24 ?_
  refine Wx_bastore 65536 dX14_dataPut_25 rfl (Nat.le_of_ble_eq_true rfl) (vp_in_nI (show p < 65536 by omega) (by decide)) ?_
  rw [show ((nI p) : Int32).toNatClampNeg = p from nI_clamp (by omega)]
  refine Wx_iinc3 dX14_dataPut_26 rfl (Nat.le_of_ble_eq_true rfl) ?_
  rw [show ((0 : Int32) + Int32.ofInt 1) = 1 from by decide]
  refine Wx_goto 2 dX14_dataPut_29 (by decide) ?_
  refine Wx_iload3 dX14_dataPut_2 ?_
  refine Wx_iconst (v := 4) dX14_dataPut_3 (by decide) ?_
  refine Wx_icmp_ge 32 dX14_dataPut_4 (by decide) (fun h => absurd h (by decide)) (fun _ => ?_)
  refine Wx_aload0 dX14_dataPut_7 ?_
  refine Wx_getR 14 51 112 dX14_dataPut_8 f_X14_122 rfl (Nat.le_of_ble_eq_true rfl) rfl ((Rf_pA hR) 66 51 112 (by decide)) ?_
  refine Wx_iload1 dX14_dataPut_11 ?_
  refine Wx_ldcw dX14_dataPut_12 k_X14_409 ?_
  refine Wx_isub dX14_dataPut_15 ?_
  rw [show (((nI (p + 131072)) - 131072) : Int32) = nI p from subE (a := (p + 131072)) (b := 131072) rfl rfl (by omega)]
  refine Wx_iload3 dX14_dataPut_16 ?_
  refine Wx_iadd dX14_dataPut_17 ?_
  rw [show (((nI p) + 1) : Int32) = nI (p + 1) from addE (a := p) (b := 1) rfl rfl (by omega)]
  refine Wx_iload2 dX14_dataPut_18 ?_
  refine Wx_bipush (v := 8) dX14_dataPut_19 (by decide) ?_
  refine Wx_iload3 dX14_dataPut_21 ?_
  refine Wx_imul dX14_dataPut_22 ?_
  rw [show ((8 * 1) : Int32) = 8 from by decide]
  refine Wx_ishr dX14_dataPut_23 ?_
  refine Wx_i2b dX14_dataPut_24 ?_
  refine Wx_bastore 65536 dX14_dataPut_25 rfl (Nat.le_of_ble_eq_true rfl) (vp_in_nI (show (p + 1) < 65536 by omega) (by decide)) ?_
  rw [show ((nI (p + 1)) : Int32).toNatClampNeg = (p + 1) from nI_clamp (by omega)]
  refine Wx_iinc3 dX14_dataPut_26 rfl (Nat.le_of_ble_eq_true rfl) ?_
  rw [show ((1 : Int32) + Int32.ofInt 1) = 2 from by decide]
  refine Wx_goto 2 dX14_dataPut_29 (by decide) ?_
  refine Wx_iload3 dX14_dataPut_2 ?_
  refine Wx_iconst (v := 4) dX14_dataPut_3 (by decide) ?_
  refine Wx_icmp_ge 32 dX14_dataPut_4 (by decide) (fun h => absurd h (by decide)) (fun _ => ?_)
  refine Wx_aload0 dX14_dataPut_7 ?_
  refine Wx_getR 14 51 112 dX14_dataPut_8 f_X14_122 rfl (Nat.le_of_ble_eq_true rfl) rfl ((Rf_pA (Rf_pA hR)) 66 51 112 (by decide)) ?_
  refine Wx_iload1 dX14_dataPut_11 ?_
  refine Wx_ldcw dX14_dataPut_12 k_X14_409 ?_
  refine Wx_isub dX14_dataPut_15 ?_
  rw [show (((nI (p + 131072)) - 131072) : Int32) = nI p from subE (a := (p + 131072)) (b := 131072) rfl rfl (by omega)]
  refine Wx_iload3 dX14_dataPut_16 ?_
  refine Wx_iadd dX14_dataPut_17 ?_
  rw [show (((nI p) + 2) : Int32) = nI (p + 2) from addE (a := p) (b := 2) rfl rfl (by omega)]
  refine Wx_iload2 dX14_dataPut_18 ?_
  refine Wx_bipush (v := 8) dX14_dataPut_19 (by decide) ?_
  refine Wx_iload3 dX14_dataPut_21 ?_
  refine Wx_imul dX14_dataPut_22 ?_
  rw [show ((8 * 2) : Int32) = 16 from by decide]
  refine Wx_ishr dX14_dataPut_23 ?_
  refine Wx_i2b dX14_dataPut_24 ?_
  refine Wx_bastore 65536 dX14_dataPut_25 rfl (Nat.le_of_ble_eq_true rfl) (vp_in_nI (show (p + 2) < 65536 by omega) (by decide)) ?_
  rw [show ((nI (p + 2)) : Int32).toNatClampNeg = (p + 2) from nI_clamp (by omega)]
  refine Wx_iinc3 dX14_dataPut_26 rfl (Nat.le_of_ble_eq_true rfl) ?_
  rw [show ((2 : Int32) + Int32.ofInt 1) = 3 from by decide]
  refine Wx_goto 2 dX14_dataPut_29 (by decide) ?_
  refine Wx_iload3 dX14_dataPut_2 ?_
  refine Wx_iconst (v := 4) dX14_dataPut_3 (by decide) ?_
  refine Wx_icmp_ge 32 dX14_dataPut_4 (by decide) (fun h => absurd h (by decide)) (fun _ => ?_)
  refine Wx_aload0 dX14_dataPut_7 ?_
  refine Wx_getR 14 51 112 dX14_dataPut_8 f_X14_122 rfl (Nat.le_of_ble_eq_true rfl) rfl ((Rf_pA (Rf_pA (Rf_pA hR))) 66 51 112 (by decide)) ?_
  refine Wx_iload1 dX14_dataPut_11 ?_
  refine Wx_ldcw dX14_dataPut_12 k_X14_409 ?_
  refine Wx_isub dX14_dataPut_15 ?_
  rw [show (((nI (p + 131072)) - 131072) : Int32) = nI p from subE (a := (p + 131072)) (b := 131072) rfl rfl (by omega)]
  refine Wx_iload3 dX14_dataPut_16 ?_
  refine Wx_iadd dX14_dataPut_17 ?_
  rw [show (((nI p) + 3) : Int32) = nI (p + 3) from addE (a := p) (b := 3) rfl rfl (by omega)]
  refine Wx_iload2 dX14_dataPut_18 ?_
  refine Wx_bipush (v := 8) dX14_dataPut_19 (by decide) ?_
  refine Wx_iload3 dX14_dataPut_21 ?_
  refine Wx_imul dX14_dataPut_22 ?_
  rw [show ((8 * 3) : Int32) = 24 from by decide]
  refine Wx_ishr dX14_dataPut_23 ?_
  refine Wx_i2b dX14_dataPut_24 ?_
  refine Wx_bastore 65536 dX14_dataPut_25 rfl (Nat.le_of_ble_eq_true rfl) (vp_in_nI (show (p + 3) < 65536 by omega) (by decide)) ?_
  rw [show ((nI (p + 3)) : Int32).toNatClampNeg = (p + 3) from nI_clamp (by omega)]
  refine Wx_iinc3 dX14_dataPut_26 rfl (Nat.le_of_ble_eq_true rfl) ?_
  rw [show ((3 : Int32) + Int32.ofInt 1) = 4 from by decide]
  refine Wx_goto 2 dX14_dataPut_29 (by decide) ?_
  refine Wx_iload3 dX14_dataPut_2 ?_
  refine Wx_iconst (v := 4) dX14_dataPut_3 (by decide) ?_
  refine Wx_icmp_ge 32 dX14_dataPut_4 (by decide) (fun _ => ?_) (fun h => absurd (by decide) h)
  exact Wx_return dX14_dataPut_32 rfl rfl (⟨rfl, by rw [t_wWM]⟩)
theorem dX14_dataAt_0 : decode cX14_dataAt 0 = .ok (.iconst 0, 1) := by decide +kernel
theorem dX14_dataAt_1 : decode cX14_dataAt 1 = .ok (.istore_n 2, 1) := by decide +kernel
theorem dX14_dataAt_2 : decode cX14_dataAt 2 = .ok (.iconst 3, 1) := by decide +kernel
theorem dX14_dataAt_3 : decode cX14_dataAt 3 = .ok (.istore_n 3, 1) := by decide +kernel
theorem dX14_dataAt_4 : decode cX14_dataAt 4 = .ok (.iload_n 3, 1) := by decide +kernel
theorem dX14_dataAt_5 : decode cX14_dataAt 5 = .ok (.ifCond .lt 31, 3) := by decide +kernel
theorem dX14_dataAt_8 : decode cX14_dataAt 8 = .ok (.iload_n 2, 1) := by decide +kernel
theorem dX14_dataAt_9 : decode cX14_dataAt 9 = .ok (.bipush 8, 2) := by decide +kernel
theorem dX14_dataAt_11 : decode cX14_dataAt 11 = .ok (.ishl, 1) := by decide +kernel
theorem dX14_dataAt_12 : decode cX14_dataAt 12 = .ok (.aload_n 0, 1) := by decide +kernel
theorem dX14_dataAt_13 : decode cX14_dataAt 13 = .ok (.getfield 122, 3) := by decide +kernel
theorem dX14_dataAt_16 : decode cX14_dataAt 16 = .ok (.iload_n 1, 1) := by decide +kernel
theorem dX14_dataAt_17 : decode cX14_dataAt 17 = .ok (.ldc_w 409, 3) := by decide +kernel
theorem dX14_dataAt_20 : decode cX14_dataAt 20 = .ok (.isub, 1) := by decide +kernel
theorem dX14_dataAt_21 : decode cX14_dataAt 21 = .ok (.iload_n 3, 1) := by decide +kernel
theorem dX14_dataAt_22 : decode cX14_dataAt 22 = .ok (.iadd, 1) := by decide +kernel
theorem dX14_dataAt_23 : decode cX14_dataAt 23 = .ok (.baload, 1) := by decide +kernel
theorem dX14_dataAt_24 : decode cX14_dataAt 24 = .ok (.sipush 255, 3) := by decide +kernel
theorem dX14_dataAt_27 : decode cX14_dataAt 27 = .ok (.iand, 1) := by decide +kernel
theorem dX14_dataAt_28 : decode cX14_dataAt 28 = .ok (.ior, 1) := by decide +kernel
theorem dX14_dataAt_29 : decode cX14_dataAt 29 = .ok (.istore_n 2, 1) := by decide +kernel
theorem dX14_dataAt_30 : decode cX14_dataAt 30 = .ok (.iinc 3 (-1), 3) := by decide +kernel
theorem dX14_dataAt_33 : decode cX14_dataAt 33 = .ok (.goto (-29), 3) := by decide +kernel
theorem dX14_dataAt_36 : decode cX14_dataAt 36 = .ok (.iload_n 2, 1) := by decide +kernel
theorem dX14_dataAt_37 : decode cX14_dataAt 37 = .ok (.ireturn, 1) := by decide +kernel
def r_rWM (σ : Hp) (p : Nat) : Int32 := ((((((((((((((0 : Int32) ||| (((gA σ 112 (p + 3)) : Int32) &&& 255)) : Int32) <<< ((8 : Int32) &&& 31)) : Int32) ||| (((gA σ 112 (p + 2)) : Int32) &&& 255)) : Int32) <<< ((8 : Int32) &&& 31)) : Int32) ||| (((gA σ 112 (p + 1)) : Int32) &&& 255)) : Int32) <<< ((8 : Int32) &&& 31)) : Int32) ||| (((gA σ 112 p) : Int32) &&& 255))
theorem w_rWM (d : Nat) (σ : Hp) (p : Nat) (hR : Rf σ) (hp : p + 4 ≤ 65536) : Cx yX14_dataAt cX14_dataAt 4 (some .int) (d) 122 122 [.ref 66, .int (nI (p + 131072))] σ (fun o τ => o = .inl (some (.int (r_rWM σ p))) ∧ τ = σ) := by
  refine Cx_of RX14 false (by decide) rfl (fun q => by cases q) (Nat.le_refl _) rfl (Nat.le_of_ble_eq_true rfl) ?_
  refine Wx_iconst (v := 0) dX14_dataAt_0 (by decide) ?_
  refine Wx_istore2 dX14_dataAt_1 rfl (Nat.le_of_ble_eq_true rfl) ?_
  refine Wx_iconst (v := 3) dX14_dataAt_2 (by decide) ?_
  refine Wx_istore3 dX14_dataAt_3 rfl (Nat.le_of_ble_eq_true rfl) ?_
  refine Wx_iload3 dX14_dataAt_4 ?_
  refine Wx_if_lt 36 dX14_dataAt_5 (by decide) (fun h => absurd h (by decide)) (fun _ => ?_)
  refine Wx_iload2 dX14_dataAt_8 ?_
  refine Wx_bipush (v := 8) dX14_dataAt_9 (by decide) ?_
  refine Wx_ishl dX14_dataAt_11 ?_
  rw [show (((0 : Int32) <<< ((8 : Int32) &&& 31)) : Int32) = 0 from by decide]
  refine Wx_aload0 dX14_dataAt_12 ?_
  refine Wx_getR 14 51 112 dX14_dataAt_13 f_X14_122 rfl (Nat.le_of_ble_eq_true rfl) rfl (hR 66 51 112 (by decide)) ?_
  refine Wx_iload1 dX14_dataAt_16 ?_
  refine Wx_ldcw dX14_dataAt_17 k_X14_409 ?_
  refine Wx_isub dX14_dataAt_20 ?_
  rw [show (((nI (p + 131072)) - 131072) : Int32) = nI p from subE (a := (p + 131072)) (b := 131072) rfl rfl (by omega)]
  refine Wx_iload3 dX14_dataAt_21 ?_
  refine Wx_iadd dX14_dataAt_22 ?_
  rw [show (((nI p) + 3) : Int32) = nI (p + 3) from addE (a := p) (b := 3) rfl rfl (by omega)]
  refine Wx_baload 65536 dX14_dataAt_23 rfl (Nat.le_of_ble_eq_true rfl) (vp_in_nI (show (p + 3) < 65536 by omega) (by decide)) ?_
  rw [show ((nI (p + 3)) : Int32).toNatClampNeg = (p + 3) from nI_clamp (by omega)]
  refine Wx_sipush (v := 255) dX14_dataAt_24 (by decide) ?_
  refine Wx_iand dX14_dataAt_27 ?_
  refine Wx_ior dX14_dataAt_28 ?_
  refine Wx_istore2 dX14_dataAt_29 rfl (Nat.le_of_ble_eq_true rfl) ?_
  refine Wx_iinc3 dX14_dataAt_30 rfl (Nat.le_of_ble_eq_true rfl) ?_
  rw [show ((3 : Int32) + Int32.ofInt (-1)) = 2 from by decide]
  refine Wx_goto 4 dX14_dataAt_33 (by decide) ?_
  refine Wx_iload3 dX14_dataAt_4 ?_
  refine Wx_if_lt 36 dX14_dataAt_5 (by decide) (fun h => absurd h (by decide)) (fun _ => ?_)
  refine Wx_iload2 dX14_dataAt_8 ?_
  refine Wx_bipush (v := 8) dX14_dataAt_9 (by decide) ?_
  refine Wx_ishl dX14_dataAt_11 ?_
  refine Wx_aload0 dX14_dataAt_12 ?_
  refine Wx_getR 14 51 112 dX14_dataAt_13 f_X14_122 rfl (Nat.le_of_ble_eq_true rfl) rfl (hR 66 51 112 (by decide)) ?_
  refine Wx_iload1 dX14_dataAt_16 ?_
  refine Wx_ldcw dX14_dataAt_17 k_X14_409 ?_
  refine Wx_isub dX14_dataAt_20 ?_
  rw [show (((nI (p + 131072)) - 131072) : Int32) = nI p from subE (a := (p + 131072)) (b := 131072) rfl rfl (by omega)]
  refine Wx_iload3 dX14_dataAt_21 ?_
  refine Wx_iadd dX14_dataAt_22 ?_
  rw [show (((nI p) + 2) : Int32) = nI (p + 2) from addE (a := p) (b := 2) rfl rfl (by omega)]
  refine Wx_baload 65536 dX14_dataAt_23 rfl (Nat.le_of_ble_eq_true rfl) (vp_in_nI (show (p + 2) < 65536 by omega) (by decide)) ?_
  rw [show ((nI (p + 2)) : Int32).toNatClampNeg = (p + 2) from nI_clamp (by omega)]
  refine Wx_sipush (v := 255) dX14_dataAt_24 (by decide) ?_
  refine Wx_iand dX14_dataAt_27 ?_
  refine Wx_ior dX14_dataAt_28 ?_
  refine Wx_istore2 dX14_dataAt_29 rfl (Nat.le_of_ble_eq_true rfl) ?_
  refine Wx_iinc3 dX14_dataAt_30 rfl (Nat.le_of_ble_eq_true rfl) ?_
  rw [show ((2 : Int32) + Int32.ofInt (-1)) = 1 from by decide]
  refine Wx_goto 4 dX14_dataAt_33 (by decide) ?_
  refine Wx_iload3 dX14_dataAt_4 ?_
  refine Wx_if_lt 36 dX14_dataAt_5 (by decide) (fun h => absurd h (by decide)) (fun _ => ?_)
  refine Wx_iload2 dX14_dataAt_8 ?_
  refine Wx_bipush (v := 8) dX14_dataAt_9 (by decide) ?_
  refine Wx_ishl dX14_dataAt_11 ?_
  refine Wx_aload0 dX14_dataAt_12 ?_
  refine Wx_getR 14 51 112 dX14_dataAt_13 f_X14_122 rfl (Nat.le_of_ble_eq_true rfl) rfl (hR 66 51 112 (by decide)) ?_
  refine Wx_iload1 dX14_dataAt_16 ?_
  refine Wx_ldcw dX14_dataAt_17 k_X14_409 ?_
  refine Wx_isub dX14_dataAt_20 ?_
  rw [show (((nI (p + 131072)) - 131072) : Int32) = nI p from subE (a := (p + 131072)) (b := 131072) rfl rfl (by omega)]
  refine Wx_iload3 dX14_dataAt_21 ?_
  refine Wx_iadd dX14_dataAt_22 ?_
  rw [show (((nI p) + 1) : Int32) = nI (p + 1) from addE (a := p) (b := 1) rfl rfl (by omega)]
  refine Wx_baload 65536 dX14_dataAt_23 rfl (Nat.le_of_ble_eq_true rfl) (vp_in_nI (show (p + 1) < 65536 by omega) (by decide)) ?_
  rw [show ((nI (p + 1)) : Int32).toNatClampNeg = (p + 1) from nI_clamp (by omega)]
  refine Wx_sipush (v := 255) dX14_dataAt_24 (by decide) ?_
  refine Wx_iand dX14_dataAt_27 ?_
  refine Wx_ior dX14_dataAt_28 ?_
  refine Wx_istore2 dX14_dataAt_29 rfl (Nat.le_of_ble_eq_true rfl) ?_
  refine Wx_iinc3 dX14_dataAt_30 rfl (Nat.le_of_ble_eq_true rfl) ?_
  rw [show ((1 : Int32) + Int32.ofInt (-1)) = 0 from by decide]
  refine Wx_goto 4 dX14_dataAt_33 (by decide) ?_
  refine Wx_iload3 dX14_dataAt_4 ?_
  refine Wx_if_lt 36 dX14_dataAt_5 (by decide) (fun h => absurd h (by decide)) (fun _ => ?_)
  refine Wx_iload2 dX14_dataAt_8 ?_
  refine Wx_bipush (v := 8) dX14_dataAt_9 (by decide) ?_
  refine Wx_ishl dX14_dataAt_11 ?_
  refine Wx_aload0 dX14_dataAt_12 ?_
  refine Wx_getR 14 51 112 dX14_dataAt_13 f_X14_122 rfl (Nat.le_of_ble_eq_true rfl) rfl (hR 66 51 112 (by decide)) ?_
  refine Wx_iload1 dX14_dataAt_16 ?_
  refine Wx_ldcw dX14_dataAt_17 k_X14_409 ?_
  refine Wx_isub dX14_dataAt_20 ?_
  rw [show (((nI (p + 131072)) - 131072) : Int32) = nI p from subE (a := (p + 131072)) (b := 131072) rfl rfl (by omega)]
  refine Wx_iload3 dX14_dataAt_21 ?_
  refine Wx_iadd dX14_dataAt_22 ?_
  rw [show (((nI p) + 0) : Int32) = nI p from addE (a := p) (b := 0) rfl rfl (by omega)]
  refine Wx_baload 65536 dX14_dataAt_23 rfl (Nat.le_of_ble_eq_true rfl) (vp_in_nI (show p < 65536 by omega) (by decide)) ?_
  rw [show ((nI p) : Int32).toNatClampNeg = p from nI_clamp (by omega)]
  refine Wx_sipush (v := 255) dX14_dataAt_24 (by decide) ?_
  refine Wx_iand dX14_dataAt_27 ?_
  refine Wx_ior dX14_dataAt_28 ?_
  refine Wx_istore2 dX14_dataAt_29 rfl (Nat.le_of_ble_eq_true rfl) ?_
  refine Wx_iinc3 dX14_dataAt_30 rfl (Nat.le_of_ble_eq_true rfl) ?_
  rw [show ((0 : Int32) + Int32.ofInt (-1)) = (-1) from by decide]
  refine Wx_goto 4 dX14_dataAt_33 (by decide) ?_
  refine Wx_iload3 dX14_dataAt_4 ?_
  refine Wx_if_lt 36 dX14_dataAt_5 (by decide) (fun _ => ?_) (fun h => absurd (by decide) h)
  refine Wx_iload2 dX14_dataAt_36 ?_
  exact Wx_ireturn dX14_dataAt_37 rfl rfl (⟨by rw [r_rWM], rfl⟩)
theorem dX11_store_0 : decode cX11_store 0 = .ok (.iload_n 1, 1) := by decide +kernel
theorem dX11_store_1 : decode cX11_store 1 = .ok (.ifCond .lt 10, 3) := by decide +kernel
theorem dX11_store_4 : decode cX11_store 4 = .ok (.iload_n 1, 1) := by decide +kernel
theorem dX11_store_5 : decode cX11_store 5 = .ok (.ldc_w 260, 3) := by decide +kernel
theorem dX11_store_8 : decode cX11_store 8 = .ok (.if_icmp .le 5, 3) := by decide +kernel
theorem dX11_store_11 : decode cX11_store 11 = .ok (.iconst 0, 1) := by decide +kernel
theorem dX11_store_12 : decode cX11_store 12 = .ok (.ireturn, 1) := by decide +kernel
theorem dX11_store_13 : decode cX11_store 13 = .ok (.aload_n 0, 1) := by decide +kernel
theorem dX11_store_14 : decode cX11_store 14 = .ok (.getfield 83, 3) := by decide +kernel
theorem dX11_store_17 : decode cX11_store 17 = .ok (.iload_n 1, 1) := by decide +kernel
theorem dX11_store_18 : decode cX11_store 18 = .ok (.iload_n 2, 1) := by decide +kernel
theorem dX11_store_19 : decode cX11_store 19 = .ok (.invokevirtual 261, 3) := by decide +kernel
theorem dX11_store_22 : decode cX11_store 22 = .ok (.iconst 1, 1) := by decide +kernel
theorem dX11_store_23 : decode cX11_store 23 = .ok (.ireturn, 1) := by decide +kernel
def r_store (σ : Hp) (p : Nat) (v : Int32) : Int32 := (if p < 0 then 0 else (if p ≤ 65532 then 1 else 0))
def t_store (σ : Hp) (p : Nat) (v : Int32) : Hp := (if p < 0 then σ else (if p ≤ 65532 then (t_wW σ (p) (v)) else σ))
theorem k_store (σ : Hp) (p : Nat) (v : Int32) : (t_store σ p v).2.1 = σ.2.1 := by
  unfold t_store
  simp only [apply_ite Prod.snd, apply_ite (Prod.fst (α := Nat → Nat → Option Nat) (β := (Nat → Nat → Int32) × (Nat → Nat → Int64))), k_wW, R_pI, R_pA, R_pL, R_rA, ite_self]
theorem w_store (d : Nat) (σ : Hp) (p : Nat) (v : Int32) (hR : Rf σ) (hp : p < 2147483648) : Cx yX11_store cX11_store 3 (some .boolean) (d + 1) 122 122 [.ref 0, .int (nI p), .int v] σ (fun o τ => o = .inl (some (.int (r_store σ p v))) ∧ τ = t_store σ p v) := by
  refine Cx_of RX11 false (by decide) rfl (fun q => by cases q) (Nat.le_refl _) rfl (Nat.le_of_ble_eq_true rfl) ?_
  refine Wx_iload1 dX11_store_0 ?_
  refine Wx_if_lt 11 dX11_store_1 (by decide) (fun h1 => ?_) (fun h1 => ?_)
  · replace h1 : p < 0 := (cLt (a := p) (b := 0) rfl rfl (by omega) (by omega)).mp h1
    refine Wx_iconst (v := 0) dX11_store_11 (by decide) ?_
    exact Wx_zreturn dX11_store_12 rfl (by decide) rfl (⟨by rw [r_store, if_pos h1], by rw [t_store, if_pos h1]⟩)
  · replace h1 : ¬ p < 0 := fun q => h1 ((cLt (a := p) (b := 0) rfl rfl (by omega) (by omega)).mpr q)
    refine Wx_iload1 dX11_store_4 ?_
    refine Wx_ldcw dX11_store_5 k_X11_260 ?_
    refine Wx_icmp_le 13 dX11_store_8 (by decide) (fun h2 => ?_) (fun h2 => ?_)
    · replace h2 : p ≤ 65532 := (cLe (a := p) (b := 65532) rfl rfl (by omega) (by omega)).mp h2
      refine Wx_aload0 dX11_store_13 ?_
      refine Wx_getR 11 13 50 dX11_store_14 f_X11_83 rfl (Nat.le_of_ble_eq_true rfl) rfl (hR 0 13 50 (by decide)) ?_
      refine Wx_iload1 dX11_store_17 ?_
      refine Wx_iload2 dX11_store_18 ?_
      have c3 := (w_wW (d + 0) σ (p) (v) hR (by omega))
      refine Wx_cVv 50 7 [.int (nI p), .int v] 2 m_X7_writeWord l_X11_261 i_X7_writeWord rfl rfl (show 50 < 122 by decide) dX11_store_19 c3 (show _ ≤ d + 1 from Nat.le_refl _) (Nat.le_refl _) rfl (Nat.le_of_ble_eq_true rfl) rfl ?_
      clear c3
      refine Wx_iconst (v := 1) dX11_store_22 (by decide) ?_
      exact Wx_zreturn dX11_store_23 rfl (by decide) rfl (⟨by rw [r_store, if_neg h1, if_pos h2], by rw [t_store, if_neg h1, if_pos h2]⟩)
    · replace h2 : ¬ p ≤ 65532 := fun q => h2 ((cLe (a := p) (b := 65532) rfl rfl (by omega) (by omega)).mpr q)
      refine Wx_iconst (v := 0) dX11_store_11 (by decide) ?_
      exact Wx_zreturn dX11_store_12 rfl (by decide) rfl (⟨by rw [r_store, if_neg h1, if_neg h2], by rw [t_store, if_neg h1, if_neg h2]⟩)
theorem dX14_store_0 : decode cX14_store 0 = .ok (.iload_n 1, 1) := by decide +kernel
theorem dX14_store_1 : decode cX14_store 1 = .ok (.ifCond .lt 10, 3) := by decide +kernel
theorem dX14_store_4 : decode cX14_store 4 = .ok (.iload_n 1, 1) := by decide +kernel
theorem dX14_store_5 : decode cX14_store 5 = .ok (.ldc_w 427, 3) := by decide +kernel
theorem dX14_store_8 : decode cX14_store 8 = .ok (.if_icmp .le 5, 3) := by decide +kernel
theorem dX14_store_11 : decode cX14_store 11 = .ok (.iconst 0, 1) := by decide +kernel
theorem dX14_store_12 : decode cX14_store 12 = .ok (.ireturn, 1) := by decide +kernel
theorem dX14_store_13 : decode cX14_store 13 = .ok (.aload_n 0, 1) := by decide +kernel
theorem dX14_store_14 : decode cX14_store 14 = .ok (.ldc_w 409, 3) := by decide +kernel
theorem dX14_store_17 : decode cX14_store 17 = .ok (.iload_n 1, 1) := by decide +kernel
theorem dX14_store_18 : decode cX14_store 18 = .ok (.iadd, 1) := by decide +kernel
theorem dX14_store_19 : decode cX14_store 19 = .ok (.iload_n 2, 1) := by decide +kernel
theorem dX14_store_20 : decode cX14_store 20 = .ok (.invokevirtual 648, 3) := by decide +kernel
theorem dX14_store_23 : decode cX14_store 23 = .ok (.iconst 1, 1) := by decide +kernel
theorem dX14_store_24 : decode cX14_store 24 = .ok (.ireturn, 1) := by decide +kernel
def r_storeM (σ : Hp) (p : Nat) (v : Int32) : Int32 := (if p < 0 then 0 else (if p ≤ 65532 then 1 else 0))
def t_storeM (σ : Hp) (p : Nat) (v : Int32) : Hp := (if p < 0 then σ else (if p ≤ 65532 then (t_wWM σ (p) (v)) else σ))
theorem k_storeM (σ : Hp) (p : Nat) (v : Int32) : (t_storeM σ p v).2.1 = σ.2.1 := by
  unfold t_storeM
  simp only [apply_ite Prod.snd, apply_ite (Prod.fst (α := Nat → Nat → Option Nat) (β := (Nat → Nat → Int32) × (Nat → Nat → Int64))), k_wWM, R_pI, R_pA, R_pL, R_rA, ite_self]
theorem w_storeM (d : Nat) (σ : Hp) (p : Nat) (v : Int32) (hR : Rf σ) (hp : p < 2147483648) : Cx yX14_store cX14_store 3 (some .boolean) (d + 1) 122 122 [.ref 66, .int (nI p), .int v] σ (fun o τ => o = .inl (some (.int (r_storeM σ p v))) ∧ τ = t_storeM σ p v) := by
  refine Cx_of RX14 false (by decide) rfl (fun q => by cases q) (Nat.le_refl _) rfl (Nat.le_of_ble_eq_true rfl) ?_
  refine Wx_iload1 dX14_store_0 ?_
  refine Wx_if_lt 11 dX14_store_1 (by decide) (fun h1 => ?_) (fun h1 => ?_)
  · replace h1 : p < 0 := (cLt (a := p) (b := 0) rfl rfl (by omega) (by omega)).mp h1
    refine Wx_iconst (v := 0) dX14_store_11 (by decide) ?_
    exact Wx_zreturn dX14_store_12 rfl (by decide) rfl (⟨by rw [r_storeM, if_pos h1], by rw [t_storeM, if_pos h1]⟩)
  · replace h1 : ¬ p < 0 := fun q => h1 ((cLt (a := p) (b := 0) rfl rfl (by omega) (by omega)).mpr q)
    refine Wx_iload1 dX14_store_4 ?_
    refine Wx_ldcw dX14_store_5 k_X14_427 ?_
    refine Wx_icmp_le 13 dX14_store_8 (by decide) (fun h2 => ?_) (fun h2 => ?_)
    · replace h2 : p ≤ 65532 := (cLe (a := p) (b := 65532) rfl rfl (by omega) (by omega)).mp h2
      refine Wx_aload0 dX14_store_13 ?_
      refine Wx_ldcw dX14_store_14 k_X14_409 ?_
      refine Wx_iload1 dX14_store_17 ?_
      refine Wx_iadd dX14_store_18 ?_
      rw [show ((131072 + (nI p)) : Int32) = nI (p + 131072) from addE (a := 131072) (b := p) rfl rfl (by omega)]
      refine Wx_iload2 dX14_store_19 ?_
      have c3 := (w_wWM (d + 0) σ (p) (v) hR (by omega))
      refine Wx_cVv 66 14 [.int (nI (p + 131072)), .int v] 2 m_X14_dataPut l_X14_648 i_X14_dataPut rfl rfl (show 66 < 122 by decide) dX14_store_20 c3 (show _ ≤ d + 1 from Nat.le_refl _) (Nat.le_refl _) rfl (Nat.le_of_ble_eq_true rfl) rfl ?_
      clear c3
      refine Wx_iconst (v := 1) dX14_store_23 (by decide) ?_
      exact Wx_zreturn dX14_store_24 rfl (by decide) rfl (⟨by rw [r_storeM, if_neg h1, if_pos h2], by rw [t_storeM, if_neg h1, if_pos h2]⟩)
    · replace h2 : ¬ p ≤ 65532 := fun q => h2 ((cLe (a := p) (b := 65532) rfl rfl (by omega) (by omega)).mpr q)
      refine Wx_iconst (v := 0) dX14_store_11 (by decide) ?_
      exact Wx_zreturn dX14_store_12 rfl (by decide) rfl (⟨by rw [r_storeM, if_neg h1, if_neg h2], by rw [t_storeM, if_neg h1, if_neg h2]⟩)
theorem dX11_load_0 : decode cX11_load 0 = .ok (.iload_n 1, 1) := by decide +kernel
theorem dX11_load_1 : decode cX11_load 1 = .ok (.ifCond .lt 10, 3) := by decide +kernel
theorem dX11_load_4 : decode cX11_load 4 = .ok (.iload_n 1, 1) := by decide +kernel
theorem dX11_load_5 : decode cX11_load 5 = .ok (.ldc_w 260, 3) := by decide +kernel
theorem dX11_load_8 : decode cX11_load 8 = .ok (.if_icmp .le 7, 3) := by decide +kernel
theorem dX11_load_11 : decode cX11_load 11 = .ok (.iconst 0, 1) := by decide +kernel
theorem dX11_load_12 : decode cX11_load 12 = .ok (.goto 11, 3) := by decide +kernel
theorem dX11_load_15 : decode cX11_load 15 = .ok (.aload_n 0, 1) := by decide +kernel
theorem dX11_load_16 : decode cX11_load 16 = .ok (.getfield 83, 3) := by decide +kernel
theorem dX11_load_19 : decode cX11_load 19 = .ok (.iload_n 1, 1) := by decide +kernel
theorem dX11_load_20 : decode cX11_load 20 = .ok (.invokevirtual 264, 3) := by decide +kernel
theorem dX11_load_23 : decode cX11_load 23 = .ok (.ireturn, 1) := by decide +kernel
def r_load (σ : Hp) (p : Nat) : Int32 := (if p < 0 then 0 else (if p ≤ 65532 then (r_rW σ (p)) else 0))
theorem w_load (d : Nat) (σ : Hp) (p : Nat) (hR : Rf σ) (hp : p < 2147483648) : Cx yX11_load cX11_load 2 (some .int) (d + 1) 122 122 [.ref 0, .int (nI p)] σ (fun o τ => o = .inl (some (.int (r_load σ p))) ∧ τ = σ) := by
  refine Cx_of RX11 false (by decide) rfl (fun q => by cases q) (Nat.le_refl _) rfl (Nat.le_of_ble_eq_true rfl) ?_
  refine Wx_iload1 dX11_load_0 ?_
  refine Wx_if_lt 11 dX11_load_1 (by decide) (fun h1 => ?_) (fun h1 => ?_)
  · replace h1 : p < 0 := (cLt (a := p) (b := 0) rfl rfl (by omega) (by omega)).mp h1
    refine Wx_iconst (v := 0) dX11_load_11 (by decide) ?_
    refine Wx_goto 23 dX11_load_12 (by decide) ?_
    exact Wx_ireturn dX11_load_23 rfl rfl (⟨by rw [r_load, if_pos h1], rfl⟩)
  · replace h1 : ¬ p < 0 := fun q => h1 ((cLt (a := p) (b := 0) rfl rfl (by omega) (by omega)).mpr q)
    refine Wx_iload1 dX11_load_4 ?_
    refine Wx_ldcw dX11_load_5 k_X11_260 ?_
    refine Wx_icmp_le 15 dX11_load_8 (by decide) (fun h2 => ?_) (fun h2 => ?_)
    · replace h2 : p ≤ 65532 := (cLe (a := p) (b := 65532) rfl rfl (by omega) (by omega)).mp h2
      refine Wx_aload0 dX11_load_15 ?_
      refine Wx_getR 11 13 50 dX11_load_16 f_X11_83 rfl (Nat.le_of_ble_eq_true rfl) rfl (hR 0 13 50 (by decide)) ?_
      refine Wx_iload1 dX11_load_19 ?_
      have c3 := (w_rW (d + 0) σ (p) hR (by omega))
      refine Wx_cVi 50 7 [.int (nI p)] 1 m_X7_readWord l_X11_264 i_X7_readWord rfl rfl (show 50 < 122 by decide) dX11_load_20 c3 (show _ ≤ d + 1 from Nat.le_refl _) (Nat.le_refl _) rfl (Nat.le_of_ble_eq_true rfl) rfl ?_
      clear c3
      exact Wx_ireturn dX11_load_23 rfl rfl (⟨by rw [r_load, if_neg h1, if_pos h2], rfl⟩)
    · replace h2 : ¬ p ≤ 65532 := fun q => h2 ((cLe (a := p) (b := 65532) rfl rfl (by omega) (by omega)).mpr q)
      refine Wx_iconst (v := 0) dX11_load_11 (by decide) ?_
      refine Wx_goto 23 dX11_load_12 (by decide) ?_
      exact Wx_ireturn dX11_load_23 rfl rfl (⟨by rw [r_load, if_neg h1, if_neg h2], rfl⟩)
theorem dX14_load__0 : decode cX14_load_ 0 = .ok (.iload_n 1, 1) := by decide +kernel
theorem dX14_load__1 : decode cX14_load_ 1 = .ok (.ifCond .lt 10, 3) := by decide +kernel
theorem dX14_load__4 : decode cX14_load_ 4 = .ok (.iload_n 1, 1) := by decide +kernel
theorem dX14_load__5 : decode cX14_load_ 5 = .ok (.ldc_w 427, 3) := by decide +kernel
theorem dX14_load__8 : decode cX14_load_ 8 = .ok (.if_icmp .le 7, 3) := by decide +kernel
theorem dX14_load__11 : decode cX14_load_ 11 = .ok (.iconst 0, 1) := by decide +kernel
theorem dX14_load__12 : decode cX14_load_ 12 = .ok (.goto 12, 3) := by decide +kernel
theorem dX14_load__15 : decode cX14_load_ 15 = .ok (.aload_n 0, 1) := by decide +kernel
theorem dX14_load__16 : decode cX14_load_ 16 = .ok (.ldc_w 409, 3) := by decide +kernel
theorem dX14_load__19 : decode cX14_load_ 19 = .ok (.iload_n 1, 1) := by decide +kernel
theorem dX14_load__20 : decode cX14_load_ 20 = .ok (.iadd, 1) := by decide +kernel
theorem dX14_load__21 : decode cX14_load_ 21 = .ok (.invokevirtual 642, 3) := by decide +kernel
theorem dX14_load__24 : decode cX14_load_ 24 = .ok (.ireturn, 1) := by decide +kernel
def r_loadM (σ : Hp) (p : Nat) : Int32 := (if p < 0 then 0 else (if p ≤ 65532 then (r_rWM σ (p)) else 0))
theorem w_loadM (d : Nat) (σ : Hp) (p : Nat) (hR : Rf σ) (hp : p < 2147483648) : Cx yX14_load_ cX14_load_ 2 (some .int) (d + 1) 122 122 [.ref 66, .int (nI p)] σ (fun o τ => o = .inl (some (.int (r_loadM σ p))) ∧ τ = σ) := by
  refine Cx_of RX14 false (by decide) rfl (fun q => by cases q) (Nat.le_refl _) rfl (Nat.le_of_ble_eq_true rfl) ?_
  refine Wx_iload1 dX14_load__0 ?_
  refine Wx_if_lt 11 dX14_load__1 (by decide) (fun h1 => ?_) (fun h1 => ?_)
  · replace h1 : p < 0 := (cLt (a := p) (b := 0) rfl rfl (by omega) (by omega)).mp h1
    refine Wx_iconst (v := 0) dX14_load__11 (by decide) ?_
    refine Wx_goto 24 dX14_load__12 (by decide) ?_
    exact Wx_ireturn dX14_load__24 rfl rfl (⟨by rw [r_loadM, if_pos h1], rfl⟩)
  · replace h1 : ¬ p < 0 := fun q => h1 ((cLt (a := p) (b := 0) rfl rfl (by omega) (by omega)).mpr q)
    refine Wx_iload1 dX14_load__4 ?_
    refine Wx_ldcw dX14_load__5 k_X14_427 ?_
    refine Wx_icmp_le 15 dX14_load__8 (by decide) (fun h2 => ?_) (fun h2 => ?_)
    · replace h2 : p ≤ 65532 := (cLe (a := p) (b := 65532) rfl rfl (by omega) (by omega)).mp h2
      refine Wx_aload0 dX14_load__15 ?_
      refine Wx_ldcw dX14_load__16 k_X14_409 ?_
      refine Wx_iload1 dX14_load__19 ?_
      refine Wx_iadd dX14_load__20 ?_
      rw [show ((131072 + (nI p)) : Int32) = nI (p + 131072) from addE (a := 131072) (b := p) rfl rfl (by omega)]
      have c3 := (w_rWM (d + 0) σ (p) hR (by omega))
      refine Wx_cVi 66 14 [.int (nI (p + 131072))] 1 m_X14_dataAt l_X14_642 i_X14_dataAt rfl rfl (show 66 < 122 by decide) dX14_load__21 c3 (show _ ≤ d + 1 from Nat.le_refl _) (Nat.le_refl _) rfl (Nat.le_of_ble_eq_true rfl) rfl ?_
      clear c3
      exact Wx_ireturn dX14_load__24 rfl rfl (⟨by rw [r_loadM, if_neg h1, if_pos h2], rfl⟩)
    · replace h2 : ¬ p ≤ 65532 := fun q => h2 ((cLe (a := p) (b := 65532) rfl rfl (by omega) (by omega)).mpr q)
      refine Wx_iconst (v := 0) dX14_load__11 (by decide) ?_
      refine Wx_goto 24 dX14_load__12 (by decide) ?_
      exact Wx_ireturn dX14_load__24 rfl rfl (⟨by rw [r_loadM, if_neg h1, if_neg h2], rfl⟩)
theorem dX11_subject_0 : decode cX11_subject 0 = .ok (.aload_n 0, 1) := by decide +kernel
theorem dX11_subject_1 : decode cX11_subject 1 = .ok (.getfield 9, 3) := by decide +kernel
theorem dX11_subject_4 : decode cX11_subject 4 = .ok (.iconst 0, 1) := by decide +kernel
theorem dX11_subject_5 : decode cX11_subject 5 = .ok (.aload_n 0, 1) := by decide +kernel
theorem dX11_subject_6 : decode cX11_subject 6 = .ok (.getfield 17, 3) := by decide +kernel
theorem dX11_subject_9 : decode cX11_subject 9 = .ok (.iconst 0, 1) := by decide +kernel
theorem dX11_subject_10 : decode cX11_subject 10 = .ok (.aload_n 0, 1) := by decide +kernel
theorem dX11_subject_11 : decode cX11_subject 11 = .ok (.getfield 13, 3) := by decide +kernel
theorem dX11_subject_14 : decode cX11_subject 14 = .ok (.invokestatic 172, 3) := by decide +kernel
theorem dX11_subject_17 : decode cX11_subject 17 = .ok (.aload_n 0, 1) := by decide +kernel
theorem dX11_subject_18 : decode cX11_subject 18 = .ok (.aload_n 0, 1) := by decide +kernel
theorem dX11_subject_19 : decode cX11_subject 19 = .ok (.getfield 13, 3) := by decide +kernel
theorem dX11_subject_22 : decode cX11_subject 22 = .ok (.putfield 20, 3) := by decide +kernel
theorem dX11_subject_25 : decode cX11_subject 25 = .ok (.aload_n 0, 1) := by decide +kernel
theorem dX11_subject_26 : decode cX11_subject 26 = .ok (.iconst 0, 1) := by decide +kernel
theorem dX11_subject_27 : decode cX11_subject 27 = .ok (.putfield 13, 3) := by decide +kernel
theorem dX11_subject_30 : decode cX11_subject 30 = .ok (.aload_n 0, 1) := by decide +kernel
theorem dX11_subject_31 : decode cX11_subject 31 = .ok (.getfield 20, 3) := by decide +kernel
theorem dX11_subject_34 : decode cX11_subject 34 = .ok (.ireturn, 1) := by decide +kernel
def r_subject (σ : Hp) (t : Nat) : Int32 := (nI t)
def t_subject (σ : Hp) (t : Nat) : Hp := (pI (pI (rA σ 2 (va_cpy (gA σ 1) (gA σ 2) 0 0 t)) 0 3 (nI t)) 0 1 0)
theorem k_subject (σ : Hp) (t : Nat) : (t_subject σ t).2.1 = σ.2.1 := by
  unfold t_subject
  simp only [apply_ite Prod.snd, apply_ite (Prod.fst (α := Nat → Nat → Option Nat) (β := (Nat → Nat → Int32) × (Nat → Nat → Int64))), R_pI, R_pI, R_pA, R_pL, R_rA, ite_self]
theorem w_subject (d : Nat) (σ : Hp) (t : Nat) (hR : Rf σ) (ht : t ≤ 4000) (et : gI σ 0 1 = nI t) (hB : ∀ k, k < 4000 → fits (tyA 0) (.int (gA σ 1 k)) = true) : Cx yX11_subject cX11_subject 1 (some .int) (d + 1) 122 122 [.ref 0] σ (fun o τ => o = .inl (some (.int (r_subject σ t))) ∧ τ = t_subject σ t) := by
  refine Cx_of RX11 false (by decide) rfl (fun q => by cases q) (Nat.le_refl _) rfl (Nat.le_of_ble_eq_true rfl) ?_
  refine Wx_aload0 dX11_subject_0 ?_
  refine Wx_getR 11 0 1 dX11_subject_1 f_X11_9 rfl (Nat.le_of_ble_eq_true rfl) rfl (hR 0 0 1 (by decide)) ?_
  refine Wx_iconst (v := 0) dX11_subject_4 (by decide) ?_
  refine Wx_aload0 dX11_subject_5 ?_
  refine Wx_getR 11 2 2 dX11_subject_6 f_X11_17 rfl (Nat.le_of_ble_eq_true rfl) rfl (hR 0 2 2 (by decide)) ?_
  refine Wx_iconst (v := 0) dX11_subject_9 (by decide) ?_
  refine Wx_aload0 dX11_subject_10 ?_
  refine Wx_getI 11 1 dX11_subject_11 f_X11_13 rfl (Nat.le_of_ble_eq_true rfl) rfl ?_
  rw [show gI σ 0 1 = (nI t) from et]
  refine Wx_acopy 0 4000 4000 0 0 t dX11_subject_14 (YTb_11_ok (172, 7) (by decide)) rfl rfl (by decide) (Nat.le_of_ble_eq_true rfl) (Nat.le_of_ble_eq_true rfl) (by omega) (by omega) (by omega) (by omega) (by omega) (Nat.le_of_ble_eq_true rfl) (show 1 ≤ d + 1 by omega) (fun j hj => hB (0 + j) (by omega)) ?_
  refine Wx_aload0 dX11_subject_17 ?_
  refine Wx_aload0 dX11_subject_18 ?_
  refine Wx_getI 11 1 dX11_subject_19 f_X11_13 rfl (Nat.le_of_ble_eq_true rfl) rfl ?_
  rw [show gI (rA σ 2 (va_cpy (gA σ 1) (gA σ 2) 0 0 t)) 0 1 = (nI t) from (gI_rA.trans et)]
  refine Wx_putI 11 3 dX11_subject_22 f_X11_20 rfl (Nat.le_of_ble_eq_true rfl) rfl rfl ?_
  refine Wx_aload0 dX11_subject_25 ?_
  refine Wx_iconst (v := 0) dX11_subject_26 (by decide) ?_
  refine Wx_putI 11 1 dX11_subject_27 f_X11_13 rfl (Nat.le_of_ble_eq_true rfl) rfl rfl ?_
  refine Wx_aload0 dX11_subject_30 ?_
  refine Wx_getI 11 3 dX11_subject_31 f_X11_20 rfl (Nat.le_of_ble_eq_true rfl) rfl ?_
  rw [show gI (pI (pI (rA σ 2 (va_cpy (gA σ 1) (gA σ 2) 0 0 t)) 0 3 (nI t)) 0 1 0) 0 3 = (nI t) from ((gI_pI (by decide)).trans gI_pIs)]
  exact Wx_ireturn dX11_subject_34 rfl rfl (⟨by rw [r_subject], by rw [t_subject]⟩)
theorem dX7_takeCode_0 : decode cX7_takeCode 0 = .ok (.iload_n 2, 1) := by decide +kernel
theorem dX7_takeCode_1 : decode cX7_takeCode 1 = .ok (.aload_n 1, 1) := by decide +kernel
theorem dX7_takeCode_2 : decode cX7_takeCode 2 = .ok (.arraylength, 1) := by decide +kernel
theorem dX7_takeCode_3 : decode cX7_takeCode 3 = .ok (.aload_n 0, 1) := by decide +kernel
theorem dX7_takeCode_4 : decode cX7_takeCode 4 = .ok (.getfield 25, 3) := by decide +kernel
theorem dX7_takeCode_7 : decode cX7_takeCode 7 = .ok (.arraylength, 1) := by decide +kernel
theorem dX7_takeCode_8 : decode cX7_takeCode 8 = .ok (.invokestatic 61, 3) := by decide +kernel
theorem dX7_takeCode_11 : decode cX7_takeCode 11 = .ok (.invokestatic 61, 3) := by decide +kernel
theorem dX7_takeCode_14 : decode cX7_takeCode 14 = .ok (.istore_n 3, 1) := by decide +kernel
theorem dX7_takeCode_15 : decode cX7_takeCode 15 = .ok (.aload_n 1, 1) := by decide +kernel
theorem dX7_takeCode_16 : decode cX7_takeCode 16 = .ok (.iconst 0, 1) := by decide +kernel
theorem dX7_takeCode_17 : decode cX7_takeCode 17 = .ok (.aload_n 0, 1) := by decide +kernel
theorem dX7_takeCode_18 : decode cX7_takeCode 18 = .ok (.getfield 25, 3) := by decide +kernel
theorem dX7_takeCode_21 : decode cX7_takeCode 21 = .ok (.iconst 0, 1) := by decide +kernel
theorem dX7_takeCode_22 : decode cX7_takeCode 22 = .ok (.iload_n 3, 1) := by decide +kernel
theorem dX7_takeCode_23 : decode cX7_takeCode 23 = .ok (.invokestatic 67, 3) := by decide +kernel
theorem dX7_takeCode_26 : decode cX7_takeCode 26 = .ok (.aload_n 0, 1) := by decide +kernel
theorem dX7_takeCode_27 : decode cX7_takeCode 27 = .ok (.iload_n 3, 1) := by decide +kernel
theorem dX7_takeCode_28 : decode cX7_takeCode 28 = .ok (.putfield 29, 3) := by decide +kernel
theorem dX7_takeCode_31 : decode cX7_takeCode 31 = .ok (.return_, 1) := by decide +kernel
def t_takeT (σ : Hp) (t : Nat) : Hp := (pI (rA σ 53 (va_cpy (gA σ 1) (gA σ 53) 0 0 (min t 4000))) 50 3 (nI (min t 4000)))
theorem k_takeT (σ : Hp) (t : Nat) : (t_takeT σ t).2.1 = σ.2.1 := by
  unfold t_takeT
  simp only [apply_ite Prod.snd, apply_ite (Prod.fst (α := Nat → Nat → Option Nat) (β := (Nat → Nat → Int32) × (Nat → Nat → Int64))), R_pI, R_pI, R_pA, R_pL, R_rA, ite_self]
theorem w_takeT (d : Nat) (σ : Hp) (t : Nat) (hR : Rf σ) (ht : t ≤ 4000) (hB : ∀ k, k < 4000 → fits (tyA 0) (.int (gA σ 1 k)) = true) : Cx yX7_takeCode cX7_takeCode 4 none (d + 1) 122 122 [.ref 50, .ref 1, .int (nI t)] σ (fun o τ => o = .inl none ∧ τ = t_takeT σ t) := by
  refine Cx_of RX7 false (by decide) rfl (fun q => by cases q) (Nat.le_refl _) rfl (Nat.le_of_ble_eq_true rfl) ?_
  refine Wx_iload2 dX7_takeCode_0 ?_
  refine Wx_aload1 dX7_takeCode_1 ?_
  refine Wx_alen 4000 dX7_takeCode_2 rfl (by decide) (Nat.le_of_ble_eq_true rfl) rfl ?_
  rw [show (Int32.ofNat 4000) = 4000 from rfl]
  refine Wx_aload0 dX7_takeCode_3 ?_
  refine Wx_getR 7 2 53 dX7_takeCode_4 f_X7_25 rfl (Nat.le_of_ble_eq_true rfl) rfl (hR 50 2 53 (by decide)) ?_
  refine Wx_alen 61440 dX7_takeCode_7 rfl (by decide) (Nat.le_of_ble_eq_true rfl) rfl ?_
  rw [show (Int32.ofNat 61440) = 61440 from rfl]
  refine Wx_min dX7_takeCode_8 (YTb_7_ok (61, 9) (by decide)) (Nat.le_of_ble_eq_true rfl) (show 1 ≤ d + 1 by omega) ?_
  rw [show ((if (61440 : Int32) < 4000 then 61440 else 4000) : Int32) = 4000 from rfl]
  refine Wx_min dX7_takeCode_11 (YTb_7_ok (61, 9) (by decide)) (Nat.le_of_ble_eq_true rfl) (show 1 ≤ d + 1 by omega) ?_
  rw [show ((if (4000 : Int32) < (nI t) then 4000 else (nI t)) : Int32) = nI (min t 4000) from minN rfl rfl (by omega) (by omega)]
  refine Wx_istore3 dX7_takeCode_14 rfl (Nat.le_of_ble_eq_true rfl) ?_
  refine Wx_aload1 dX7_takeCode_15 ?_
  refine Wx_iconst (v := 0) dX7_takeCode_16 (by decide) ?_
  refine Wx_aload0 dX7_takeCode_17 ?_
  refine Wx_getR 7 2 53 dX7_takeCode_18 f_X7_25 rfl (Nat.le_of_ble_eq_true rfl) rfl (hR 50 2 53 (by decide)) ?_
  refine Wx_iconst (v := 0) dX7_takeCode_21 (by decide) ?_
  refine Wx_iload3 dX7_takeCode_22 ?_
  refine Wx_acopy 0 4000 61440 0 0 (min t 4000) dX7_takeCode_23 (YTb_7_ok (67, 7) (by decide)) rfl rfl (by decide) (Nat.le_of_ble_eq_true rfl) (Nat.le_of_ble_eq_true rfl) (by omega) (by omega) (by omega) (by omega) (by omega) (Nat.le_of_ble_eq_true rfl) (show 1 ≤ d + 1 by omega) (fun j hj => hB (0 + j) (by omega)) ?_
  refine Wx_aload0 dX7_takeCode_26 ?_
  refine Wx_iload3 dX7_takeCode_27 ?_
  refine Wx_putI 7 3 dX7_takeCode_28 f_X7_29 rfl (Nat.le_of_ble_eq_true rfl) rfl rfl ?_
  exact Wx_return dX7_takeCode_31 rfl rfl (⟨rfl, by rw [t_takeT]⟩)
def t_takeC (σ : Hp) (t : Nat) : Hp := (pI (rA σ 53 (va_cpy (gA σ 45) (gA σ 53) 0 0 (min t 61440))) 50 3 (nI (min t 61440)))
theorem k_takeC (σ : Hp) (t : Nat) : (t_takeC σ t).2.1 = σ.2.1 := by
  unfold t_takeC
  simp only [apply_ite Prod.snd, apply_ite (Prod.fst (α := Nat → Nat → Option Nat) (β := (Nat → Nat → Int32) × (Nat → Nat → Int64))), R_pI, R_pI, R_pA, R_pL, R_rA, ite_self]
theorem w_takeC (d : Nat) (σ : Hp) (t : Nat) (hR : Rf σ) (ht : t ≤ 61440) (hB : ∀ k, k < 61440 → fits (tyA 0) (.int (gA σ 45 k)) = true) : Cx yX7_takeCode cX7_takeCode 4 none (d + 1) 122 122 [.ref 50, .ref 45, .int (nI t)] σ (fun o τ => o = .inl none ∧ τ = t_takeC σ t) := by
  refine Cx_of RX7 false (by decide) rfl (fun q => by cases q) (Nat.le_refl _) rfl (Nat.le_of_ble_eq_true rfl) ?_
  refine Wx_iload2 dX7_takeCode_0 ?_
  refine Wx_aload1 dX7_takeCode_1 ?_
  refine Wx_alen 61440 dX7_takeCode_2 rfl (by decide) (Nat.le_of_ble_eq_true rfl) rfl ?_
  rw [show (Int32.ofNat 61440) = 61440 from rfl]
  refine Wx_aload0 dX7_takeCode_3 ?_
  refine Wx_getR 7 2 53 dX7_takeCode_4 f_X7_25 rfl (Nat.le_of_ble_eq_true rfl) rfl (hR 50 2 53 (by decide)) ?_
  refine Wx_alen 61440 dX7_takeCode_7 rfl (by decide) (Nat.le_of_ble_eq_true rfl) rfl ?_
  rw [show (Int32.ofNat 61440) = 61440 from rfl]
  refine Wx_min dX7_takeCode_8 (YTb_7_ok (61, 9) (by decide)) (Nat.le_of_ble_eq_true rfl) (show 1 ≤ d + 1 by omega) ?_
  rw [show ((if (61440 : Int32) < 61440 then 61440 else 61440) : Int32) = 61440 from rfl]
  refine Wx_min dX7_takeCode_11 (YTb_7_ok (61, 9) (by decide)) (Nat.le_of_ble_eq_true rfl) (show 1 ≤ d + 1 by omega) ?_
  rw [show ((if (61440 : Int32) < (nI t) then 61440 else (nI t)) : Int32) = nI (min t 61440) from minN rfl rfl (by omega) (by omega)]
  refine Wx_istore3 dX7_takeCode_14 rfl (Nat.le_of_ble_eq_true rfl) ?_
  refine Wx_aload1 dX7_takeCode_15 ?_
  refine Wx_iconst (v := 0) dX7_takeCode_16 (by decide) ?_
  refine Wx_aload0 dX7_takeCode_17 ?_
  refine Wx_getR 7 2 53 dX7_takeCode_18 f_X7_25 rfl (Nat.le_of_ble_eq_true rfl) rfl (hR 50 2 53 (by decide)) ?_
  refine Wx_iconst (v := 0) dX7_takeCode_21 (by decide) ?_
  refine Wx_iload3 dX7_takeCode_22 ?_
  refine Wx_acopy 0 61440 61440 0 0 (min t 61440) dX7_takeCode_23 (YTb_7_ok (67, 7) (by decide)) rfl rfl (by decide) (Nat.le_of_ble_eq_true rfl) (Nat.le_of_ble_eq_true rfl) (by omega) (by omega) (by omega) (by omega) (by omega) (Nat.le_of_ble_eq_true rfl) (show 1 ≤ d + 1 by omega) (fun j hj => hB (0 + j) (by omega)) ?_
  refine Wx_aload0 dX7_takeCode_26 ?_
  refine Wx_iload3 dX7_takeCode_27 ?_
  refine Wx_putI 7 3 dX7_takeCode_28 f_X7_29 rfl (Nat.le_of_ble_eq_true rfl) rfl rfl ?_
  exact Wx_return dX7_takeCode_31 rfl rfl (⟨rfl, by rw [t_takeC]⟩)
theorem dX2_forget_0 : decode cX2_forget 0 = .ok (.aload_n 0, 1) := by decide +kernel
theorem dX2_forget_1 : decode cX2_forget 1 = .ok (.iconst 0, 1) := by decide +kernel
theorem dX2_forget_2 : decode cX2_forget 2 = .ok (.putfield 46, 3) := by decide +kernel
theorem dX2_forget_5 : decode cX2_forget 5 = .ok (.return_, 1) := by decide +kernel
def t_forget (σ : Hp) : Hp := (pI σ 56 8 0)
theorem k_forget (σ : Hp) : (t_forget σ).2.1 = σ.2.1 := by
  unfold t_forget
  simp only [apply_ite Prod.snd, apply_ite (Prod.fst (α := Nat → Nat → Option Nat) (β := (Nat → Nat → Int32) × (Nat → Nat → Int64))), R_pI, R_pI, R_pA, R_pL, R_rA, ite_self]
theorem w_forget (d : Nat) (σ : Hp) : Cx yX2_forget cX2_forget 1 none (d) 122 122 [.ref 56] σ (fun o τ => o = .inl none ∧ τ = t_forget σ) := by
  refine Cx_of RX2 false (by decide) rfl (fun q => by cases q) (Nat.le_refl _) rfl (Nat.le_of_ble_eq_true rfl) ?_
  refine Wx_aload0 dX2_forget_0 ?_
  refine Wx_iconst (v := 0) dX2_forget_1 (by decide) ?_
  refine Wx_putZ 2 8 dX2_forget_2 f_X2_46 rfl (Nat.le_of_ble_eq_true rfl) rfl rfl (by decide) ?_
  exact Wx_return dX2_forget_5 rfl rfl (⟨rfl, by rw [t_forget]⟩)
theorem dX11_place_0 : decode cX11_place 0 = .ok (.aload_n 0, 1) := by decide +kernel
theorem dX11_place_1 : decode cX11_place 1 = .ok (.getfield 13, 3) := by decide +kernel
theorem dX11_place_4 : decode cX11_place 4 = .ok (.istore_n 1, 1) := by decide +kernel
theorem dX11_place_5 : decode cX11_place 5 = .ok (.aload_n 0, 1) := by decide +kernel
theorem dX11_place_6 : decode cX11_place 6 = .ok (.iconst 0, 1) := by decide +kernel
theorem dX11_place_7 : decode cX11_place 7 = .ok (.putfield 13, 3) := by decide +kernel
theorem dX11_place_10 : decode cX11_place 10 = .ok (.aload_n 0, 1) := by decide +kernel
theorem dX11_place_11 : decode cX11_place 11 = .ok (.getfield 83, 3) := by decide +kernel
theorem dX11_place_14 : decode cX11_place 14 = .ok (.aload_n 0, 1) := by decide +kernel
theorem dX11_place_15 : decode cX11_place 15 = .ok (.getfield 9, 3) := by decide +kernel
theorem dX11_place_18 : decode cX11_place 18 = .ok (.iload_n 1, 1) := by decide +kernel
theorem dX11_place_19 : decode cX11_place 19 = .ok (.invokevirtual 178, 3) := by decide +kernel
theorem dX11_place_22 : decode cX11_place 22 = .ok (.aload_n 0, 1) := by decide +kernel
theorem dX11_place_23 : decode cX11_place 23 = .ok (.getfield 83, 3) := by decide +kernel
theorem dX11_place_26 : decode cX11_place 26 = .ok (.iconst 0, 1) := by decide +kernel
theorem dX11_place_27 : decode cX11_place 27 = .ok (.invokevirtual 227, 3) := by decide +kernel
theorem dX11_place_30 : decode cX11_place 30 = .ok (.aload_n 0, 1) := by decide +kernel
theorem dX11_place_31 : decode cX11_place 31 = .ok (.getfield 90, 3) := by decide +kernel
theorem dX11_place_34 : decode cX11_place 34 = .ok (.invokevirtual 196, 3) := by decide +kernel
theorem dX11_place_37 : decode cX11_place 37 = .ok (.iload_n 1, 1) := by decide +kernel
theorem dX11_place_38 : decode cX11_place 38 = .ok (.ireturn, 1) := by decide +kernel
def r_place (σ : Hp) (t : Nat) : Int32 := (nI t)
def t_place (σ : Hp) (t : Nat) : Hp := (t_forget (t_goTo (t_takeT (pI σ 0 1 0) t) (0)))
theorem k_place (σ : Hp) (t : Nat) : (t_place σ t).2.1 = σ.2.1 := by
  unfold t_place
  simp only [apply_ite Prod.snd, apply_ite (Prod.fst (α := Nat → Nat → Option Nat) (β := (Nat → Nat → Int32) × (Nat → Nat → Int64))), k_forget, k_goTo, k_takeT, R_pI, R_pA, R_pL, R_rA, ite_self]
theorem w_place (d : Nat) (σ : Hp) (t : Nat) (hR : Rf σ) (ht : t ≤ 4000) (et : gI σ 0 1 = nI t) (hB : ∀ k, k < 4000 → fits (tyA 0) (.int (gA σ 1 k)) = true) : Cx yX11_place cX11_place 2 (some .int) (d + 2) 122 122 [.ref 0] σ (fun o τ => o = .inl (some (.int (r_place σ t))) ∧ τ = t_place σ t) := by
  refine Cx_of RX11 false (by decide) rfl (fun q => by cases q) (Nat.le_refl _) rfl (Nat.le_of_ble_eq_true rfl) ?_
  refine Wx_aload0 dX11_place_0 ?_
  refine Wx_getI 11 1 dX11_place_1 f_X11_13 rfl (Nat.le_of_ble_eq_true rfl) rfl ?_
  rw [show gI σ 0 1 = (nI t) from et]
  refine Wx_istore1 dX11_place_4 rfl (Nat.le_of_ble_eq_true rfl) ?_
  refine Wx_aload0 dX11_place_5 ?_
  refine Wx_iconst (v := 0) dX11_place_6 (by decide) ?_
  refine Wx_putI 11 1 dX11_place_7 f_X11_13 rfl (Nat.le_of_ble_eq_true rfl) rfl rfl ?_
  refine Wx_aload0 dX11_place_10 ?_
  refine Wx_getR 11 13 50 dX11_place_11 f_X11_83 rfl (Nat.le_of_ble_eq_true rfl) rfl ((Rf_pI hR) 0 13 50 (by decide)) ?_
  refine Wx_aload0 dX11_place_14 ?_
  refine Wx_getR 11 0 1 dX11_place_15 f_X11_9 rfl (Nat.le_of_ble_eq_true rfl) rfl ((Rf_pI hR) 0 0 1 (by decide)) ?_
  refine Wx_iload1 dX11_place_18 ?_
  have c1 := (w_takeT d (pI σ 0 1 0) t (Rf_pI hR) ht hB)
  refine Wx_cVv 50 7 [.ref 1, .int (nI t)] 2 m_X7_takeCode l_X11_178 i_X7_takeCode rfl rfl (show 50 < 122 by decide) dX11_place_19 c1 (show _ ≤ d + 2 from Nat.le_refl _) (Nat.le_refl _) rfl (Nat.le_of_ble_eq_true rfl) rfl ?_
  clear c1
  refine Wx_aload0 dX11_place_22 ?_
  refine Wx_getR 11 13 50 dX11_place_23 f_X11_83 rfl (Nat.le_of_ble_eq_true rfl) rfl ((Rf_of (k_takeT (pI σ 0 1 0) t) (Rf_pI hR)) 0 13 50 (by decide)) ?_
  refine Wx_iconst (v := 0) dX11_place_26 (by decide) ?_
  have c2 := (w_goTo (d + 1) (t_takeT (pI σ 0 1 0) t) (0))
  refine Wx_cVv 50 7 [.int 0] 1 m_X7_goTo l_X11_227 i_X7_goTo rfl rfl (show 50 < 122 by decide) dX11_place_27 c2 (show _ ≤ d + 2 from Nat.le_refl _) (Nat.le_refl _) rfl (Nat.le_of_ble_eq_true rfl) rfl ?_
  clear c2
  refine Wx_aload0 dX11_place_30 ?_
  refine Wx_getR 11 14 56 dX11_place_31 f_X11_90 rfl (Nat.le_of_ble_eq_true rfl) rfl ((Rf_of (k_goTo (t_takeT (pI σ 0 1 0) t) (0)) (Rf_of (k_takeT (pI σ 0 1 0) t) (Rf_pI hR))) 0 14 56 (by decide)) ?_
  have c3 := (w_forget (d + 1) (t_goTo (t_takeT (pI σ 0 1 0) t) (0)))
  refine Wx_cVv 56 2 [] 0 m_X2_forget l_X11_196 i_X2_forget rfl rfl (show 56 < 122 by decide) dX11_place_34 c3 (show _ ≤ d + 2 from Nat.le_refl _) (Nat.le_refl _) rfl (Nat.le_of_ble_eq_true rfl) rfl ?_
  clear c3
  refine Wx_iload1 dX11_place_37 ?_
  exact Wx_ireturn dX11_place_38 rfl rfl (⟨by rw [r_place], by rw [t_place]⟩)
theorem dX14_subject_0 : decode cX14_subject 0 = .ok (.iconst 0, 1) := by decide +kernel
theorem dX14_subject_1 : decode cX14_subject 1 = .ok (.istore_n 1, 1) := by decide +kernel
theorem dX14_subject_2 : decode cX14_subject 2 = .ok (.iload_n 1, 1) := by decide +kernel
theorem dX14_subject_3 : decode cX14_subject 3 = .ok (.aload_n 0, 1) := by decide +kernel
theorem dX14_subject_4 : decode cX14_subject 4 = .ok (.getfield 158, 3) := by decide +kernel
theorem dX14_subject_7 : decode cX14_subject 7 = .ok (.if_icmp .ge 21, 3) := by decide +kernel
theorem dX14_subject_10 : decode cX14_subject 10 = .ok (.aload_n 0, 1) := by decide +kernel
theorem dX14_subject_11 : decode cX14_subject 11 = .ok (.getfield 20, 3) := by decide +kernel
theorem dX14_subject_14 : decode cX14_subject 14 = .ok (.iload_n 1, 1) := by decide +kernel
theorem dX14_subject_15 : decode cX14_subject 15 = .ok (.aload_n 0, 1) := by decide +kernel
theorem dX14_subject_16 : decode cX14_subject 16 = .ok (.getfield 16, 3) := by decide +kernel
theorem dX14_subject_19 : decode cX14_subject 19 = .ok (.iload_n 1, 1) := by decide +kernel
theorem dX14_subject_20 : decode cX14_subject 20 = .ok (.baload, 1) := by decide +kernel
theorem dX14_subject_21 : decode cX14_subject 21 = .ok (.bastore, 1) := by decide +kernel
theorem dX14_subject_22 : decode cX14_subject 22 = .ok (.iinc 1 1, 3) := by decide +kernel
theorem dX14_subject_25 : decode cX14_subject 25 = .ok (.goto (-23), 3) := by decide +kernel
theorem dX14_subject_28 : decode cX14_subject 28 = .ok (.aload_n 0, 1) := by decide +kernel
theorem dX14_subject_29 : decode cX14_subject 29 = .ok (.aload_n 0, 1) := by decide +kernel
theorem dX14_subject_30 : decode cX14_subject 30 = .ok (.getfield 158, 3) := by decide +kernel
theorem dX14_subject_33 : decode cX14_subject 33 = .ok (.putfield 161, 3) := by decide +kernel
theorem dX14_subject_36 : decode cX14_subject 36 = .ok (.aload_n 0, 1) := by decide +kernel
theorem dX14_subject_37 : decode cX14_subject 37 = .ok (.iconst 0, 1) := by decide +kernel
theorem dX14_subject_38 : decode cX14_subject 38 = .ok (.putfield 158, 3) := by decide +kernel
theorem dX14_subject_41 : decode cX14_subject 41 = .ok (.aload_n 0, 1) := by decide +kernel
theorem dX14_subject_42 : decode cX14_subject 42 = .ok (.getfield 161, 3) := by decide +kernel
theorem dX14_subject_45 : decode cX14_subject 45 = .ok (.ireturn, 1) := by decide +kernel
def r_subjectM (σ : Hp) (t : Nat) : Int32 := (nI t)
def t_subjectM (σ : Hp) (t : Nat) : Hp := (pI (pI (rA σ 69 (cpy (fun j => (gA σ 68 j).toInt8.toInt32) (gA σ 69) t)) 66 4 (nI t)) 66 2 0)
theorem k_subjectM (σ : Hp) (t : Nat) : (t_subjectM σ t).2.1 = σ.2.1 := by
  unfold t_subjectM
  simp only [apply_ite Prod.snd, apply_ite (Prod.fst (α := Nat → Nat → Option Nat) (β := (Nat → Nat → Int32) × (Nat → Nat → Int64))), R_pI, R_pI, R_pA, R_pL, R_rA, ite_self]
theorem w_subjectM (d : Nat) (σ : Hp) (t : Nat) (hR : Rf σ) (ht : t ≤ 4000) (et : gI σ 66 2 = nI t) : Cx yX14_subject cX14_subject 2 (some .int) (d) 122 122 [.ref 66] σ (fun o τ => o = .inl (some (.int (r_subjectM σ t))) ∧ τ = t_subjectM σ t) := by
  refine Cx_of RX14 false (by decide) rfl (fun q => by cases q) (Nat.le_refl _) rfl (Nat.le_of_ble_eq_true rfl) ?_
  refine Wx_iconst (v := 0) dX14_subject_0 (by decide) ?_
  refine Wx_istore1 dX14_subject_1 rfl (Nat.le_of_ble_eq_true rfl) ?_
  refine Wx_eq (show σ = (rA σ 69 (cpy (fun j => (gA σ 68 j).toInt8.toInt32) (gA σ 69) 0)) from rA_cpy0 σ 69 _) ?_
  refine Wx_count (fun k => [.ref 66, .int (nI k)]) [] (fun k => (rA σ 69 (cpy (fun j => (gA σ 68 j).toInt8.toInt32) (gA σ 69) k))) 0 t ?_ ?_ (by omega)
  · intro k hka hkb Kk
    refine Wx_iload1 dX14_subject_2 ?_
    refine Wx_aload0 dX14_subject_3 ?_
    refine Wx_getI 14 2 dX14_subject_4 f_X14_158 rfl (Nat.le_of_ble_eq_true rfl) rfl ?_
    rw [show gI (rA σ 69 (cpy (fun j => (gA σ 68 j).toInt8.toInt32) (gA σ 69) k)) 66 2 = (nI t) from (gI_rA.trans et)]
    refine Wx_icmp_ge 28 dX14_subject_7 (by decide) (fun h => absurd h (fun q => absurd ((cLe (a := t) (b := k) rfl rfl (by omega) (by omega)).mp q) (by omega))) (fun _ => ?_)
    refine Wx_aload0 dX14_subject_10 ?_
    refine Wx_getR 14 3 69 dX14_subject_11 f_X14_20 rfl (Nat.le_of_ble_eq_true rfl) rfl ((Rf_rA hR) 66 3 69 (by decide)) ?_
    refine Wx_iload1 dX14_subject_14 ?_
    refine Wx_aload0 dX14_subject_15 ?_
    refine Wx_getR 14 1 68 dX14_subject_16 f_X14_16 rfl (Nat.le_of_ble_eq_true rfl) rfl ((Rf_rA hR) 66 1 68 (by decide)) ?_
    refine Wx_iload1 dX14_subject_19 ?_
    refine Wx_baload 4000 dX14_subject_20 rfl (Nat.le_of_ble_eq_true rfl) (vp_in_nI (show k < 4000 by omega) (by decide)) ?_
    rw [show ((nI k) : Int32).toNatClampNeg = k from nI_clamp (by omega)]
    refine Wx_bastore 4000 dX14_subject_21 rfl (Nat.le_of_ble_eq_true rfl) (vp_in_nI (show k < 4000 by omega) (by decide)) ?_
    rw [show ((nI k) : Int32).toNatClampNeg = k from nI_clamp (by omega)]
    refine Wx_iinc1 dX14_subject_22 rfl (Nat.le_of_ble_eq_true rfl) ?_
    rw [show (((nI k) : Int32) + Int32.ofInt 1) = nI (k + 1) from addE (a := k) (b := 1) rfl rfl (by omega)]
    refine Wx_goto 2 dX14_subject_25 (by decide) ?_
    refine Wx_eq (show (pA (rA σ 69 (cpy (fun j => (gA σ 68 j).toInt8.toInt32) (gA σ 69) k)) 69 k ((gA (rA σ 69 (cpy (fun j => (gA σ 68 j).toInt8.toInt32) (gA σ 69) k)) 68 k) : Int32).toInt8.toInt32) = (rA σ 69 (cpy (fun j => (gA σ 68 j).toInt8.toInt32) (gA σ 69) (k + 1))) from pA_cpy σ 69 k _ _ rfl) ?_
    exact Kk
  ·
    refine Wx_iload1 dX14_subject_2 ?_
    refine Wx_aload0 dX14_subject_3 ?_
    refine Wx_getI 14 2 dX14_subject_4 f_X14_158 rfl (Nat.le_of_ble_eq_true rfl) rfl ?_
    rw [show gI (rA σ 69 (cpy (fun j => (gA σ 68 j).toInt8.toInt32) (gA σ 69) t)) 66 2 = (nI t) from (gI_rA.trans et)]
    refine Wx_icmp_ge 28 dX14_subject_7 (by decide) (fun _ => ?_) (fun h => absurd ((cLe (a := t) (b := t) rfl rfl (by omega) (by omega)).mpr (by omega)) h)
    refine Wx_aload0 dX14_subject_28 ?_
    refine Wx_aload0 dX14_subject_29 ?_
    refine Wx_getI 14 2 dX14_subject_30 f_X14_158 rfl (Nat.le_of_ble_eq_true rfl) rfl ?_
    rw [show gI (rA σ 69 (cpy (fun j => (gA σ 68 j).toInt8.toInt32) (gA σ 69) t)) 66 2 = (nI t) from (gI_rA.trans et)]
    refine Wx_putI 14 4 dX14_subject_33 f_X14_161 rfl (Nat.le_of_ble_eq_true rfl) rfl rfl ?_
    refine Wx_aload0 dX14_subject_36 ?_
    refine Wx_iconst (v := 0) dX14_subject_37 (by decide) ?_
    refine Wx_putI 14 2 dX14_subject_38 f_X14_158 rfl (Nat.le_of_ble_eq_true rfl) rfl rfl ?_
    refine Wx_aload0 dX14_subject_41 ?_
    refine Wx_getI 14 4 dX14_subject_42 f_X14_161 rfl (Nat.le_of_ble_eq_true rfl) rfl ?_
    rw [show gI (pI (pI (rA σ 69 (cpy (fun j => (gA σ 68 j).toInt8.toInt32) (gA σ 69) t)) 66 4 (nI t)) 66 2 0) 66 4 = (nI t) from ((gI_pI (by decide)).trans gI_pIs)]
    exact Wx_ireturn dX14_subject_45 rfl rfl (⟨by rw [r_subjectM], by rw [t_subjectM]⟩)
theorem dX14_place_0 : decode cX14_place 0 = .ok (.iconst 0, 1) := by decide +kernel
theorem dX14_place_1 : decode cX14_place 1 = .ok (.istore_n 1, 1) := by decide +kernel
theorem dX14_place_2 : decode cX14_place 2 = .ok (.iload_n 1, 1) := by decide +kernel
theorem dX14_place_3 : decode cX14_place 3 = .ok (.aload_n 0, 1) := by decide +kernel
theorem dX14_place_4 : decode cX14_place 4 = .ok (.getfield 158, 3) := by decide +kernel
theorem dX14_place_7 : decode cX14_place 7 = .ok (.if_icmp .ge 21, 3) := by decide +kernel
theorem dX14_place_10 : decode cX14_place 10 = .ok (.aload_n 0, 1) := by decide +kernel
theorem dX14_place_11 : decode cX14_place 11 = .ok (.getfield 118, 3) := by decide +kernel
theorem dX14_place_14 : decode cX14_place 14 = .ok (.iload_n 1, 1) := by decide +kernel
theorem dX14_place_15 : decode cX14_place 15 = .ok (.aload_n 0, 1) := by decide +kernel
theorem dX14_place_16 : decode cX14_place 16 = .ok (.getfield 16, 3) := by decide +kernel
theorem dX14_place_19 : decode cX14_place 19 = .ok (.iload_n 1, 1) := by decide +kernel
theorem dX14_place_20 : decode cX14_place 20 = .ok (.baload, 1) := by decide +kernel
theorem dX14_place_21 : decode cX14_place 21 = .ok (.bastore, 1) := by decide +kernel
theorem dX14_place_22 : decode cX14_place 22 = .ok (.iinc 1 1, 3) := by decide +kernel
theorem dX14_place_25 : decode cX14_place 25 = .ok (.goto (-23), 3) := by decide +kernel
theorem dX14_place_28 : decode cX14_place 28 = .ok (.aload_n 0, 1) := by decide +kernel
theorem dX14_place_29 : decode cX14_place 29 = .ok (.aload_n 0, 1) := by decide +kernel
theorem dX14_place_30 : decode cX14_place 30 = .ok (.getfield 158, 3) := by decide +kernel
theorem dX14_place_33 : decode cX14_place 33 = .ok (.putfield 538, 3) := by decide +kernel
theorem dX14_place_36 : decode cX14_place 36 = .ok (.aload_n 0, 1) := by decide +kernel
theorem dX14_place_37 : decode cX14_place 37 = .ok (.iconst 0, 1) := by decide +kernel
theorem dX14_place_38 : decode cX14_place 38 = .ok (.putfield 158, 3) := by decide +kernel
theorem dX14_place_41 : decode cX14_place 41 = .ok (.aload_n 0, 1) := by decide +kernel
theorem dX14_place_42 : decode cX14_place 42 = .ok (.ldc 121, 2) := by decide +kernel
theorem dX14_place_44 : decode cX14_place 44 = .ok (.putfield 128, 3) := by decide +kernel
theorem dX14_place_47 : decode cX14_place 47 = .ok (.aload_n 0, 1) := by decide +kernel
theorem dX14_place_48 : decode cX14_place 48 = .ok (.iconst 0, 1) := by decide +kernel
theorem dX14_place_49 : decode cX14_place 49 = .ok (.putfield 693, 3) := by decide +kernel
theorem dX14_place_52 : decode cX14_place 52 = .ok (.aload_n 0, 1) := by decide +kernel
theorem dX14_place_53 : decode cX14_place 53 = .ok (.getfield 538, 3) := by decide +kernel
theorem dX14_place_56 : decode cX14_place 56 = .ok (.ireturn, 1) := by decide +kernel
def r_placeM (σ : Hp) (t : Nat) : Int32 := (nI t)
def t_placeM (σ : Hp) (t : Nat) : Hp := (pI (pI (pI (pI (rA σ 111 (cpy (fun j => (gA σ 68 j).toInt8.toInt32) (gA σ 111) t)) 66 50 (nI t)) 66 2 0) 66 54 65536) 66 55 0)
theorem k_placeM (σ : Hp) (t : Nat) : (t_placeM σ t).2.1 = σ.2.1 := by
  unfold t_placeM
  simp only [apply_ite Prod.snd, apply_ite (Prod.fst (α := Nat → Nat → Option Nat) (β := (Nat → Nat → Int32) × (Nat → Nat → Int64))), R_pI, R_pI, R_pA, R_pL, R_rA, ite_self]
theorem w_placeM (d : Nat) (σ : Hp) (t : Nat) (hR : Rf σ) (ht : t ≤ 4000) (et : gI σ 66 2 = nI t) : Cx yX14_place cX14_place 2 (some .int) (d) 122 122 [.ref 66] σ (fun o τ => o = .inl (some (.int (r_placeM σ t))) ∧ τ = t_placeM σ t) := by
  refine Cx_of RX14 false (by decide) rfl (fun q => by cases q) (Nat.le_refl _) rfl (Nat.le_of_ble_eq_true rfl) ?_
  refine Wx_iconst (v := 0) dX14_place_0 (by decide) ?_
  refine Wx_istore1 dX14_place_1 rfl (Nat.le_of_ble_eq_true rfl) ?_
  refine Wx_eq (show σ = (rA σ 111 (cpy (fun j => (gA σ 68 j).toInt8.toInt32) (gA σ 111) 0)) from rA_cpy0 σ 111 _) ?_
  refine Wx_count (fun k => [.ref 66, .int (nI k)]) [] (fun k => (rA σ 111 (cpy (fun j => (gA σ 68 j).toInt8.toInt32) (gA σ 111) k))) 0 t ?_ ?_ (by omega)
  · intro k hka hkb Kk
    refine Wx_iload1 dX14_place_2 ?_
    refine Wx_aload0 dX14_place_3 ?_
    refine Wx_getI 14 2 dX14_place_4 f_X14_158 rfl (Nat.le_of_ble_eq_true rfl) rfl ?_
    rw [show gI (rA σ 111 (cpy (fun j => (gA σ 68 j).toInt8.toInt32) (gA σ 111) k)) 66 2 = (nI t) from (gI_rA.trans et)]
    refine Wx_icmp_ge 28 dX14_place_7 (by decide) (fun h => absurd h (fun q => absurd ((cLe (a := t) (b := k) rfl rfl (by omega) (by omega)).mp q) (by omega))) (fun _ => ?_)
    refine Wx_aload0 dX14_place_10 ?_
    refine Wx_getR 14 49 111 dX14_place_11 f_X14_118 rfl (Nat.le_of_ble_eq_true rfl) rfl ((Rf_rA hR) 66 49 111 (by decide)) ?_
    refine Wx_iload1 dX14_place_14 ?_
    refine Wx_aload0 dX14_place_15 ?_
    refine Wx_getR 14 1 68 dX14_place_16 f_X14_16 rfl (Nat.le_of_ble_eq_true rfl) rfl ((Rf_rA hR) 66 1 68 (by decide)) ?_
    refine Wx_iload1 dX14_place_19 ?_
    refine Wx_baload 4000 dX14_place_20 rfl (Nat.le_of_ble_eq_true rfl) (vp_in_nI (show k < 4000 by omega) (by decide)) ?_
    rw [show ((nI k) : Int32).toNatClampNeg = k from nI_clamp (by omega)]
    refine Wx_bastore 61440 dX14_place_21 rfl (Nat.le_of_ble_eq_true rfl) (vp_in_nI (show k < 61440 by omega) (by decide)) ?_
    rw [show ((nI k) : Int32).toNatClampNeg = k from nI_clamp (by omega)]
    refine Wx_iinc1 dX14_place_22 rfl (Nat.le_of_ble_eq_true rfl) ?_
    rw [show (((nI k) : Int32) + Int32.ofInt 1) = nI (k + 1) from addE (a := k) (b := 1) rfl rfl (by omega)]
    refine Wx_goto 2 dX14_place_25 (by decide) ?_
    refine Wx_eq (show (pA (rA σ 111 (cpy (fun j => (gA σ 68 j).toInt8.toInt32) (gA σ 111) k)) 111 k ((gA (rA σ 111 (cpy (fun j => (gA σ 68 j).toInt8.toInt32) (gA σ 111) k)) 68 k) : Int32).toInt8.toInt32) = (rA σ 111 (cpy (fun j => (gA σ 68 j).toInt8.toInt32) (gA σ 111) (k + 1))) from pA_cpy σ 111 k _ _ rfl) ?_
    exact Kk
  ·
    refine Wx_iload1 dX14_place_2 ?_
    refine Wx_aload0 dX14_place_3 ?_
    refine Wx_getI 14 2 dX14_place_4 f_X14_158 rfl (Nat.le_of_ble_eq_true rfl) rfl ?_
    rw [show gI (rA σ 111 (cpy (fun j => (gA σ 68 j).toInt8.toInt32) (gA σ 111) t)) 66 2 = (nI t) from (gI_rA.trans et)]
    refine Wx_icmp_ge 28 dX14_place_7 (by decide) (fun _ => ?_) (fun h => absurd ((cLe (a := t) (b := t) rfl rfl (by omega) (by omega)).mpr (by omega)) h)
    refine Wx_aload0 dX14_place_28 ?_
    refine Wx_aload0 dX14_place_29 ?_
    refine Wx_getI 14 2 dX14_place_30 f_X14_158 rfl (Nat.le_of_ble_eq_true rfl) rfl ?_
    rw [show gI (rA σ 111 (cpy (fun j => (gA σ 68 j).toInt8.toInt32) (gA σ 111) t)) 66 2 = (nI t) from (gI_rA.trans et)]
    refine Wx_putI 14 50 dX14_place_33 f_X14_538 rfl (Nat.le_of_ble_eq_true rfl) rfl rfl ?_
    refine Wx_aload0 dX14_place_36 ?_
    refine Wx_iconst (v := 0) dX14_place_37 (by decide) ?_
    refine Wx_putI 14 2 dX14_place_38 f_X14_158 rfl (Nat.le_of_ble_eq_true rfl) rfl rfl ?_
    refine Wx_aload0 dX14_place_41 ?_
    refine Wx_ldc dX14_place_42 k_X14_121 ?_
    refine Wx_putI 14 54 dX14_place_44 f_X14_128 rfl (Nat.le_of_ble_eq_true rfl) rfl rfl ?_
    refine Wx_aload0 dX14_place_47 ?_
    refine Wx_iconst (v := 0) dX14_place_48 (by decide) ?_
    refine Wx_putI 14 55 dX14_place_49 f_X14_693 rfl (Nat.le_of_ble_eq_true rfl) rfl rfl ?_
    refine Wx_aload0 dX14_place_52 ?_
    refine Wx_getI 14 50 dX14_place_53 f_X14_538 rfl (Nat.le_of_ble_eq_true rfl) rfl ?_
    rw [show gI (pI (pI (pI (pI (rA σ 111 (cpy (fun j => (gA σ 68 j).toInt8.toInt32) (gA σ 111) t)) 66 50 (nI t)) 66 2 0) 66 54 65536) 66 55 0) 66 50 = (nI t) from ((gI_pI (by decide)).trans ((gI_pI (by decide)).trans ((gI_pI (by decide)).trans gI_pIs)))]
    exact Wx_ireturn dX14_place_56 rfl rfl (⟨by rw [r_placeM], by rw [t_placeM]⟩)
def r_storeN (σ : Hp) (a : Int32) (v : Int32) : Int32 := 0
theorem w_storeN (d : Nat) (σ : Hp) (a : Int32) (v : Int32) (k0 : a < 0) : Cx yX11_store cX11_store 3 (some .boolean) (d) 122 122 [.ref 0, .int a, .int v] σ (fun o τ => o = .inl (some (.int (r_storeN σ a v))) ∧ τ = σ) := by
  refine Cx_of RX11 false (by decide) rfl (fun q => by cases q) (Nat.le_refl _) rfl (Nat.le_of_ble_eq_true rfl) ?_
  refine Wx_iload1 dX11_store_0 ?_
  refine Wx_if_lt 11 dX11_store_1 (by decide) (fun _ => ?_) (fun h => absurd k0 h)
  refine Wx_iconst (v := 0) dX11_store_11 (by decide) ?_
  exact Wx_zreturn dX11_store_12 rfl (by decide) rfl (⟨by rw [r_storeN], rfl⟩)
def r_storeMN (σ : Hp) (a : Int32) (v : Int32) : Int32 := 0
theorem w_storeMN (d : Nat) (σ : Hp) (a : Int32) (v : Int32) (k0 : a < 0) : Cx yX14_store cX14_store 3 (some .boolean) (d) 122 122 [.ref 66, .int a, .int v] σ (fun o τ => o = .inl (some (.int (r_storeMN σ a v))) ∧ τ = σ) := by
  refine Cx_of RX14 false (by decide) rfl (fun q => by cases q) (Nat.le_refl _) rfl (Nat.le_of_ble_eq_true rfl) ?_
  refine Wx_iload1 dX14_store_0 ?_
  refine Wx_if_lt 11 dX14_store_1 (by decide) (fun _ => ?_) (fun h => absurd k0 h)
  refine Wx_iconst (v := 0) dX14_store_11 (by decide) ?_
  exact Wx_zreturn dX14_store_12 rfl (by decide) rfl (⟨by rw [r_storeMN], rfl⟩)
def r_loadN (σ : Hp) (a : Int32) : Int32 := 0
theorem w_loadN (d : Nat) (σ : Hp) (a : Int32) (k0 : a < 0) : Cx yX11_load cX11_load 2 (some .int) (d) 122 122 [.ref 0, .int a] σ (fun o τ => o = .inl (some (.int (r_loadN σ a))) ∧ τ = σ) := by
  refine Cx_of RX11 false (by decide) rfl (fun q => by cases q) (Nat.le_refl _) rfl (Nat.le_of_ble_eq_true rfl) ?_
  refine Wx_iload1 dX11_load_0 ?_
  refine Wx_if_lt 11 dX11_load_1 (by decide) (fun _ => ?_) (fun h => absurd k0 h)
  refine Wx_iconst (v := 0) dX11_load_11 (by decide) ?_
  refine Wx_goto 23 dX11_load_12 (by decide) ?_
  exact Wx_ireturn dX11_load_23 rfl rfl (⟨by rw [r_loadN], rfl⟩)
def r_loadMN (σ : Hp) (a : Int32) : Int32 := 0
theorem w_loadMN (d : Nat) (σ : Hp) (a : Int32) (k0 : a < 0) : Cx yX14_load_ cX14_load_ 2 (some .int) (d) 122 122 [.ref 66, .int a] σ (fun o τ => o = .inl (some (.int (r_loadMN σ a))) ∧ τ = σ) := by
  refine Cx_of RX14 false (by decide) rfl (fun q => by cases q) (Nat.le_refl _) rfl (Nat.le_of_ble_eq_true rfl) ?_
  refine Wx_iload1 dX14_load__0 ?_
  refine Wx_if_lt 11 dX14_load__1 (by decide) (fun _ => ?_) (fun h => absurd k0 h)
  refine Wx_iconst (v := 0) dX14_load__11 (by decide) ?_
  refine Wx_goto 24 dX14_load__12 (by decide) ?_
  exact Wx_ireturn dX14_load__24 rfl rfl (⟨by rw [r_loadMN], rfl⟩)

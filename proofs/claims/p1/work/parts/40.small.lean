/-- references that stay as the constructors laid them -/
def rtL : List (Nat × Nat × Nat) := [(0, 0, 1), (0, 2, 2), (0, 6, 3), (0, 7, 15), (0, 8, 17), (0, 11, 39), (0, 12, 44), (0, 13, 50), (0, 14, 56), (0, 15, 63), (3, 0, 4), (3, 1, 5), (3, 2, 6), (3, 3, 7), (3, 4, 8), (3, 5, 9), (3, 6, 10), (3, 7, 11), (3, 8, 12), (3, 9, 13), (3, 10, 14), (15, 0, 3), (17, 0, 3), (17, 1, 18), (17, 2, 19), (21, 0, 22), (21, 1, 23), (21, 2, 24), (21, 3, 25), (21, 4, 26), (21, 5, 27), (21, 6, 28), (21, 7, 29), (30, 0, 31), (30, 1, 32), (30, 2, 33), (30, 3, 34), (30, 4, 35), (30, 5, 36), (30, 6, 37), (30, 7, 38), (39, 0, 3), (39, 2, 40), (39, 3, 41), (39, 4, 42), (39, 5, 43), (44, 0, 45), (44, 2, 46), (44, 3, 47), (44, 4, 48), (44, 5, 49), (50, 0, 51), (50, 1, 52), (50, 2, 53), (50, 4, 54), (50, 8, 55), (56, 0, 57), (56, 1, 58), (56, 2, 59), (56, 3, 60), (63, 0, 64), (63, 1, 65), (66, 0, 67), (66, 1, 68), (66, 3, 69), (66, 11, 70), (66, 12, 71), (66, 13, 72), (66, 14, 73), (66, 15, 74), (66, 16, 75), (66, 17, 76), (66, 18, 77), (66, 19, 78), (66, 21, 79), (66, 22, 80), (66, 26, 81), (66, 27, 82), (66, 28, 83), (66, 30, 84), (66, 31, 85), (66, 32, 86), (66, 38, 103), (66, 39, 104), (66, 40, 105), (66, 41, 106), (66, 42, 107), (66, 45, 108), (66, 47, 109), (66, 48, 110), (66, 49, 111), (66, 51, 112), (66, 52, 113), (66, 73, 114), (66, 74, 115), (66, 75, 116), (66, 81, 117), (66, 82, 118), (66, 83, 119), (66, 84, 120), (66, 85, 121), (87, 5, 88), (87, 6, 89), (87, 7, 90), (87, 8, 91), (87, 9, 92), (87, 10, 93), (87, 11, 94), (95, 5, 96), (95, 6, 97), (95, 7, 98), (95, 8, 99), (95, 9, 100), (95, 10, 101), (95, 11, 102)]
def Rf (σ : Hp) : Prop := ∀ o k j, (o, k, j) ∈ rtL → gR σ o k = some j
theorem dX11_end_0 : decode cX11_end 0 = .ok (.iload_n 1, 1) := by decide +kernel
theorem dX11_end_1 : decode cX11_end 1 = .ok (.ifCond .lt 11, 3) := by decide +kernel
theorem dX11_end_4 : decode cX11_end 4 = .ok (.iload_n 1, 1) := by decide +kernel
theorem dX11_end_5 : decode cX11_end 5 = .ok (.aload_n 0, 1) := by decide +kernel
theorem dX11_end_6 : decode cX11_end 6 = .ok (.getfield 13, 3) := by decide +kernel
theorem dX11_end_9 : decode cX11_end 9 = .ok (.if_icmp .le 5, 3) := by decide +kernel
theorem dX11_end_12 : decode cX11_end 12 = .ok (.iconst (-1), 1) := by decide +kernel
theorem dX11_end_13 : decode cX11_end 13 = .ok (.ireturn, 1) := by decide +kernel
theorem dX11_end_14 : decode cX11_end 14 = .ok (.aload_n 0, 1) := by decide +kernel
theorem dX11_end_15 : decode cX11_end 15 = .ok (.iload_n 1, 1) := by decide +kernel
theorem dX11_end_16 : decode cX11_end 16 = .ok (.putfield 13, 3) := by decide +kernel
theorem dX11_end_19 : decode cX11_end 19 = .ok (.iload_n 1, 1) := by decide +kernel
theorem dX11_end_20 : decode cX11_end 20 = .ok (.ireturn, 1) := by decide +kernel
theorem w_X11_end (σ : Hp) (n : Int32) : Cx yX11_end cX11_end 2 (some .int) 1 122 122 [.ref 0, .int n] σ (fun o τ => o = .inl (some (.int (if n < 0 ∨ gI σ 0 1 < n then -1 else n))) ∧ τ = if n < 0 ∨ gI σ 0 1 < n then σ else pI σ 0 1 n) := by
  refine Cx_of RX11 false (by decide) rfl (fun q => by cases q) (Nat.le_refl _) rfl (Nat.le_of_ble_eq_true rfl) ?_
  refine Wx_iload1 dX11_end_0 ?_
  refine Wx_if_lt 12 dX11_end_1 (by decide) (fun h1 => ?_) (fun h1 => ?_)
  ·
    refine Wx_iconst (v := (-1)) dX11_end_12 (by decide) ?_
    exact Wx_ireturn dX11_end_13 rfl rfl (by constructor <;> (split <;> first | rfl | (exfalso; simp only [Int32.lt_iff_toInt_lt, Int32.le_iff_toInt_le] at *; omega)))
  ·
    refine Wx_iload1 dX11_end_4 ?_
    refine Wx_aload0 dX11_end_5 ?_
    refine Wx_getI 11 1 dX11_end_6 f_X11_13 rfl (Nat.le_of_ble_eq_true rfl) rfl ?_
    refine Wx_icmp_le 14 dX11_end_9 (by decide) (fun h2 => ?_) (fun h2 => ?_)
    ·
      refine Wx_aload0 dX11_end_14 ?_
      refine Wx_iload1 dX11_end_15 ?_
      refine Wx_putI 11 1 dX11_end_16 f_X11_13 rfl (Nat.le_of_ble_eq_true rfl) rfl rfl ?_
      refine Wx_iload1 dX11_end_19 ?_
      exact Wx_ireturn dX11_end_20 rfl rfl (by constructor <;> (split <;> first | rfl | (exfalso; simp only [Int32.lt_iff_toInt_lt, Int32.le_iff_toInt_le] at *; omega)))
    ·
      refine Wx_iconst (v := (-1)) dX11_end_12 (by decide) ?_
      exact Wx_ireturn dX11_end_13 rfl rfl (by constructor <;> (split <;> first | rfl | (exfalso; simp only [Int32.lt_iff_toInt_lt, Int32.le_iff_toInt_le] at *; omega)))
theorem dX14_end_0 : decode cX14_end 0 = .ok (.iload_n 1, 1) := by decide +kernel
theorem dX14_end_1 : decode cX14_end 1 = .ok (.ifCond .lt 11, 3) := by decide +kernel
theorem dX14_end_4 : decode cX14_end 4 = .ok (.iload_n 1, 1) := by decide +kernel
theorem dX14_end_5 : decode cX14_end 5 = .ok (.aload_n 0, 1) := by decide +kernel
theorem dX14_end_6 : decode cX14_end 6 = .ok (.getfield 158, 3) := by decide +kernel
theorem dX14_end_9 : decode cX14_end 9 = .ok (.if_icmp .le 5, 3) := by decide +kernel
theorem dX14_end_12 : decode cX14_end 12 = .ok (.iconst (-1), 1) := by decide +kernel
theorem dX14_end_13 : decode cX14_end 13 = .ok (.ireturn, 1) := by decide +kernel
theorem dX14_end_14 : decode cX14_end 14 = .ok (.aload_n 0, 1) := by decide +kernel
theorem dX14_end_15 : decode cX14_end 15 = .ok (.iload_n 1, 1) := by decide +kernel
theorem dX14_end_16 : decode cX14_end 16 = .ok (.putfield 158, 3) := by decide +kernel
theorem dX14_end_19 : decode cX14_end 19 = .ok (.iload_n 1, 1) := by decide +kernel
theorem dX14_end_20 : decode cX14_end 20 = .ok (.ireturn, 1) := by decide +kernel
theorem w_X14_end (σ : Hp) (n : Int32) : Cx yX14_end cX14_end 2 (some .int) 1 122 122 [.ref 66, .int n] σ (fun o τ => o = .inl (some (.int (if n < 0 ∨ gI σ 66 2 < n then -1 else n))) ∧ τ = if n < 0 ∨ gI σ 66 2 < n then σ else pI σ 66 2 n) := by
  refine Cx_of RX14 false (by decide) rfl (fun q => by cases q) (Nat.le_refl _) rfl (Nat.le_of_ble_eq_true rfl) ?_
  refine Wx_iload1 dX14_end_0 ?_
  refine Wx_if_lt 12 dX14_end_1 (by decide) (fun h1 => ?_) (fun h1 => ?_)
  ·
    refine Wx_iconst (v := (-1)) dX14_end_12 (by decide) ?_
    exact Wx_ireturn dX14_end_13 rfl rfl (by constructor <;> (split <;> first | rfl | (exfalso; simp only [Int32.lt_iff_toInt_lt, Int32.le_iff_toInt_le] at *; omega)))
  ·
    refine Wx_iload1 dX14_end_4 ?_
    refine Wx_aload0 dX14_end_5 ?_
    refine Wx_getI 14 2 dX14_end_6 f_X14_158 rfl (Nat.le_of_ble_eq_true rfl) rfl ?_
    refine Wx_icmp_le 14 dX14_end_9 (by decide) (fun h2 => ?_) (fun h2 => ?_)
    ·
      refine Wx_aload0 dX14_end_14 ?_
      refine Wx_iload1 dX14_end_15 ?_
      refine Wx_putI 14 2 dX14_end_16 f_X14_158 rfl (Nat.le_of_ble_eq_true rfl) rfl rfl ?_
      refine Wx_iload1 dX14_end_19 ?_
      exact Wx_ireturn dX14_end_20 rfl rfl (by constructor <;> (split <;> first | rfl | (exfalso; simp only [Int32.lt_iff_toInt_lt, Int32.le_iff_toInt_le] at *; omega)))
    ·
      refine Wx_iconst (v := (-1)) dX14_end_12 (by decide) ?_
      exact Wx_ireturn dX14_end_13 rfl rfl (by constructor <;> (split <;> first | rfl | (exfalso; simp only [Int32.lt_iff_toInt_lt, Int32.le_iff_toInt_le] at *; omega)))
theorem dX11_fault_0 : decode cX11_fault 0 = .ok (.iload_n 1, 1) := by decide +kernel
theorem dX11_fault_1 : decode cX11_fault 1 = .ok (.ifCond .ne 8, 3) := by decide +kernel
theorem dX11_fault_4 : decode cX11_fault 4 = .ok (.aload_n 0, 1) := by decide +kernel
theorem dX11_fault_5 : decode cX11_fault 5 = .ok (.getfield 23, 3) := by decide +kernel
theorem dX11_fault_8 : decode cX11_fault 8 = .ok (.ireturn, 1) := by decide +kernel
theorem dX11_fault_9 : decode cX11_fault 9 = .ok (.iload_n 1, 1) := by decide +kernel
theorem dX11_fault_10 : decode cX11_fault 10 = .ok (.iconst 1, 1) := by decide +kernel
theorem dX11_fault_11 : decode cX11_fault 11 = .ok (.if_icmp .ne 10, 3) := by decide +kernel
theorem dX11_fault_14 : decode cX11_fault 14 = .ok (.aload_n 0, 1) := by decide +kernel
theorem dX11_fault_15 : decode cX11_fault 15 = .ok (.getfield 26, 3) := by decide +kernel
theorem dX11_fault_18 : decode cX11_fault 18 = .ok (.goto 4, 3) := by decide +kernel
theorem dX11_fault_21 : decode cX11_fault 21 = .ok (.iconst (-1), 1) := by decide +kernel
theorem dX11_fault_22 : decode cX11_fault 22 = .ok (.ireturn, 1) := by decide +kernel
theorem w_X11_fault (σ : Hp) (w : Int32) : Cx yX11_fault cX11_fault 2 (some .int) 1 122 122 [.ref 0, .int w] σ (fun o τ => o = .inl (some (.int (if w = 0 then gI σ 0 4 else if w = 1 then gI σ 0 5 else -1))) ∧ τ = σ) := by
  refine Cx_of RX11 false (by decide) rfl (fun q => by cases q) (Nat.le_refl _) rfl (Nat.le_of_ble_eq_true rfl) ?_
  refine Wx_iload1 dX11_fault_0 ?_
  refine Wx_if_ne 9 dX11_fault_1 (by decide) (fun h1 => ?_) (fun h1 => ?_)
  ·
    refine Wx_iload1 dX11_fault_9 ?_
    refine Wx_iconst (v := 1) dX11_fault_10 (by decide) ?_
    refine Wx_icmp_ne 21 dX11_fault_11 (by decide) (fun h2 => ?_) (fun h2 => ?_)
    ·
      refine Wx_iconst (v := (-1)) dX11_fault_21 (by decide) ?_
      exact Wx_ireturn dX11_fault_22 rfl rfl (by constructor <;> simp_all)
    ·
      refine Wx_aload0 dX11_fault_14 ?_
      refine Wx_getI 11 5 dX11_fault_15 f_X11_26 rfl (Nat.le_of_ble_eq_true rfl) rfl ?_
      refine Wx_goto 22 dX11_fault_18 (by decide) ?_
      exact Wx_ireturn dX11_fault_22 rfl rfl (by constructor <;> simp_all)
  ·
    refine Wx_aload0 dX11_fault_4 ?_
    refine Wx_getI 11 4 dX11_fault_5 f_X11_23 rfl (Nat.le_of_ble_eq_true rfl) rfl ?_
    exact Wx_ireturn dX11_fault_8 rfl rfl (by constructor <;> simp_all)
theorem dX14_fault__0 : decode cX14_fault_ 0 = .ok (.aload_n 0, 1) := by decide +kernel
theorem dX14_fault__1 : decode cX14_fault_ 1 = .ok (.getfield 519, 3) := by decide +kernel
theorem dX14_fault__4 : decode cX14_fault_ 4 = .ok (.ifCond .ne 5, 3) := by decide +kernel
theorem dX14_fault__7 : decode cX14_fault_ 7 = .ok (.iconst (-1), 1) := by decide +kernel
theorem dX14_fault__8 : decode cX14_fault_ 8 = .ok (.ireturn, 1) := by decide +kernel
theorem dX14_fault__9 : decode cX14_fault_ 9 = .ok (.iload_n 1, 1) := by decide +kernel
theorem dX14_fault__10 : decode cX14_fault_ 10 = .ok (.ifCond .ne 10, 3) := by decide +kernel
theorem dX14_fault__13 : decode cX14_fault_ 13 = .ok (.aload_n 0, 1) := by decide +kernel
theorem dX14_fault__14 : decode cX14_fault_ 14 = .ok (.getfield 164, 3) := by decide +kernel
theorem dX14_fault__17 : decode cX14_fault_ 17 = .ok (.goto 16, 3) := by decide +kernel
theorem dX14_fault__20 : decode cX14_fault_ 20 = .ok (.iload_n 1, 1) := by decide +kernel
theorem dX14_fault__21 : decode cX14_fault_ 21 = .ok (.iconst 1, 1) := by decide +kernel
theorem dX14_fault__22 : decode cX14_fault_ 22 = .ok (.if_icmp .ne 10, 3) := by decide +kernel
theorem dX14_fault__25 : decode cX14_fault_ 25 = .ok (.aload_n 0, 1) := by decide +kernel
theorem dX14_fault__26 : decode cX14_fault_ 26 = .ok (.getfield 23, 3) := by decide +kernel
theorem dX14_fault__29 : decode cX14_fault_ 29 = .ok (.goto 4, 3) := by decide +kernel
theorem dX14_fault__32 : decode cX14_fault_ 32 = .ok (.iconst (-1), 1) := by decide +kernel
theorem dX14_fault__33 : decode cX14_fault_ 33 = .ok (.ireturn, 1) := by decide +kernel
theorem w_X14_fault_ (σ : Hp) (w : Int32) : Cx yX14_fault_ cX14_fault_ 2 (some .int) 1 122 122 [.ref 66, .int w] σ (fun o τ => o = .inl (some (.int (if gI σ 66 9 = 0 then -1 else if w = 0 then gI σ 66 7 else if w = 1 then gI σ 66 8 else -1))) ∧ τ = σ) := by
  refine Cx_of RX14 false (by decide) rfl (fun q => by cases q) (Nat.le_refl _) rfl (Nat.le_of_ble_eq_true rfl) ?_
  refine Wx_aload0 dX14_fault__0 ?_
  refine Wx_getI 14 9 dX14_fault__1 f_X14_519 rfl (Nat.le_of_ble_eq_true rfl) rfl ?_
  refine Wx_if_ne 9 dX14_fault__4 (by decide) (fun h1 => ?_) (fun h1 => ?_)
  ·
    refine Wx_iload1 dX14_fault__9 ?_
    refine Wx_if_ne 20 dX14_fault__10 (by decide) (fun h2 => ?_) (fun h2 => ?_)
    ·
      refine Wx_iload1 dX14_fault__20 ?_
      refine Wx_iconst (v := 1) dX14_fault__21 (by decide) ?_
      refine Wx_icmp_ne 32 dX14_fault__22 (by decide) (fun h3 => ?_) (fun h3 => ?_)
      ·
        refine Wx_iconst (v := (-1)) dX14_fault__32 (by decide) ?_
        exact Wx_ireturn dX14_fault__33 rfl rfl (by constructor <;> simp_all)
      ·
        refine Wx_aload0 dX14_fault__25 ?_
        refine Wx_getI 14 8 dX14_fault__26 f_X14_23 rfl (Nat.le_of_ble_eq_true rfl) rfl ?_
        refine Wx_goto 33 dX14_fault__29 (by decide) ?_
        exact Wx_ireturn dX14_fault__33 rfl rfl (by constructor <;> simp_all)
    ·
      refine Wx_aload0 dX14_fault__13 ?_
      refine Wx_getI 14 7 dX14_fault__14 f_X14_164 rfl (Nat.le_of_ble_eq_true rfl) rfl ?_
      refine Wx_goto 33 dX14_fault__17 (by decide) ?_
      exact Wx_ireturn dX14_fault__33 rfl rfl (by constructor <;> simp_all)
  ·
    refine Wx_iconst (v := (-1)) dX14_fault__7 (by decide) ?_
    exact Wx_ireturn dX14_fault__8 rfl rfl (by constructor <;> simp_all)
theorem dX11_peak_0 : decode cX11_peak 0 = .ok (.aload_n 0, 1) := by decide +kernel
theorem dX11_peak_1 : decode cX11_peak 1 = .ok (.getfield 97, 3) := by decide +kernel
theorem dX11_peak_4 : decode cX11_peak 4 = .ok (.getfield 215, 3) := by decide +kernel
theorem dX11_peak_7 : decode cX11_peak 7 = .ok (.ireturn, 1) := by decide +kernel
theorem w_X11_peak (σ : Hp) (hR : Rf σ) : Cx yX11_peak cX11_peak 1 (some .int) 1 122 122 [.ref 0] σ (fun o τ => o = .inl (some (.int (gI σ 63 3))) ∧ τ = σ) := by
  refine Cx_of RX11 false (by decide) rfl (fun q => by cases q) (Nat.le_refl _) rfl (Nat.le_of_ble_eq_true rfl) ?_
  refine Wx_aload0 dX11_peak_0 ?_
  refine Wx_getR 11 15 63 dX11_peak_1 f_X11_97 rfl (Nat.le_of_ble_eq_true rfl) rfl (hR 0 15 63 (by decide)) ?_
  refine Wx_getI 6 3 dX11_peak_4 f_X11_215 rfl (Nat.le_of_ble_eq_true rfl) rfl ?_
  exact Wx_ireturn dX11_peak_7 rfl rfl (⟨rfl, rfl⟩)
theorem dX14_peak_0 : decode cX14_peak 0 = .ok (.aload_n 0, 1) := by decide +kernel
theorem dX14_peak_1 : decode cX14_peak 1 = .ok (.getfield 787, 3) := by decide +kernel
theorem dX14_peak_4 : decode cX14_peak 4 = .ok (.ireturn, 1) := by decide +kernel
theorem w_X14_peak (σ : Hp) : Cx yX14_peak cX14_peak 1 (some .int) 1 122 122 [.ref 66] σ (fun o τ => o = .inl (some (.int (gI σ 66 89))) ∧ τ = σ) := by
  refine Cx_of RX14 false (by decide) rfl (fun q => by cases q) (Nat.le_refl _) rfl (Nat.le_of_ble_eq_true rfl) ?_
  refine Wx_aload0 dX14_peak_0 ?_
  refine Wx_getI 14 89 dX14_peak_1 f_X14_787 rfl (Nat.le_of_ble_eq_true rfl) rfl ?_
  exact Wx_ireturn dX14_peak_4 rfl rfl (⟨rfl, rfl⟩)

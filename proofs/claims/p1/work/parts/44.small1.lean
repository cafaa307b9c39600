def r_end (σ : Hp) (n : Int32) : Int32 := (if n < 0 then (-1) else (if n ≤ (gI σ 0 1) then n else (-1)))
def t_end (σ : Hp) (n : Int32) : Hp := (if n < 0 then σ else (if n ≤ (gI σ 0 1) then (pI σ 0 1 n) else σ))
theorem k_end (σ : Hp) (n : Int32) : (t_end σ n).2.1 = σ.2.1 := by
  unfold t_end
  simp only [apply_ite Prod.snd, apply_ite (Prod.fst (α := Nat → Nat → Option Nat) (β := (Nat → Nat → Int32) × (Nat → Nat → Int64))), R_pI, R_pI, R_pA, R_pL, R_rA, ite_self]
theorem w_end (d : Nat) (σ : Hp) (n : Int32) : Cx yX11_end cX11_end 2 (some .int) (d) 122 122 [.ref 0, .int n] σ (fun o τ => o = .inl (some (.int (r_end σ n))) ∧ τ = t_end σ n) := by
  refine Cx_of RX11 false (by decide) rfl (fun q => by cases q) (Nat.le_refl _) rfl (Nat.le_of_ble_eq_true rfl) ?_
  refine Wx_iload1 dX11_end_0 ?_
  refine Wx_if_lt 12 dX11_end_1 (by decide) (fun h1 => ?_) (fun h1 => ?_)
  ·
    refine Wx_iconst (v := (-1)) dX11_end_12 (by decide) ?_
    exact Wx_ireturn dX11_end_13 rfl rfl (⟨by rw [r_end, if_pos h1], by rw [t_end, if_pos h1]⟩)
  ·
    refine Wx_iload1 dX11_end_4 ?_
    refine Wx_aload0 dX11_end_5 ?_
    refine Wx_getI 11 1 dX11_end_6 f_X11_13 rfl (Nat.le_of_ble_eq_true rfl) rfl ?_
    refine Wx_icmp_le 14 dX11_end_9 (by decide) (fun h2 => ?_) (fun h2 => ?_)
    ·
      refine Wx_aload0 dX11_end_14 ?_
      refine Wx_iload1 dX11_end_15 ?_
      refine Wx_putI 11 1 dX11_end_16 f_X11_13 rfl (Nat.le_of_ble_eq_true rfl) rfl rfl ?_
      refine Wx_iload1 dX11_end_19 ?_
      exact Wx_ireturn dX11_end_20 rfl rfl (⟨by rw [r_end, if_neg h1, if_pos h2], by rw [t_end, if_neg h1, if_pos h2]⟩)
    ·
      refine Wx_iconst (v := (-1)) dX11_end_12 (by decide) ?_
      exact Wx_ireturn dX11_end_13 rfl rfl (⟨by rw [r_end, if_neg h1, if_neg h2], by rw [t_end, if_neg h1, if_neg h2]⟩)
def r_endM (σ : Hp) (n : Int32) : Int32 := (if n < 0 then (-1) else (if n ≤ (gI σ 66 2) then n else (-1)))
def t_endM (σ : Hp) (n : Int32) : Hp := (if n < 0 then σ else (if n ≤ (gI σ 66 2) then (pI σ 66 2 n) else σ))
theorem k_endM (σ : Hp) (n : Int32) : (t_endM σ n).2.1 = σ.2.1 := by
  unfold t_endM
  simp only [apply_ite Prod.snd, apply_ite (Prod.fst (α := Nat → Nat → Option Nat) (β := (Nat → Nat → Int32) × (Nat → Nat → Int64))), R_pI, R_pI, R_pA, R_pL, R_rA, ite_self]
theorem w_endM (d : Nat) (σ : Hp) (n : Int32) : Cx yX14_end cX14_end 2 (some .int) (d) 122 122 [.ref 66, .int n] σ (fun o τ => o = .inl (some (.int (r_endM σ n))) ∧ τ = t_endM σ n) := by
  refine Cx_of RX14 false (by decide) rfl (fun q => by cases q) (Nat.le_refl _) rfl (Nat.le_of_ble_eq_true rfl) ?_
  refine Wx_iload1 dX14_end_0 ?_
  refine Wx_if_lt 12 dX14_end_1 (by decide) (fun h1 => ?_) (fun h1 => ?_)
  ·
    refine Wx_iconst (v := (-1)) dX14_end_12 (by decide) ?_
    exact Wx_ireturn dX14_end_13 rfl rfl (⟨by rw [r_endM, if_pos h1], by rw [t_endM, if_pos h1]⟩)
  ·
    refine Wx_iload1 dX14_end_4 ?_
    refine Wx_aload0 dX14_end_5 ?_
    refine Wx_getI 14 2 dX14_end_6 f_X14_158 rfl (Nat.le_of_ble_eq_true rfl) rfl ?_
    refine Wx_icmp_le 14 dX14_end_9 (by decide) (fun h2 => ?_) (fun h2 => ?_)
    ·
      refine Wx_aload0 dX14_end_14 ?_
      refine Wx_iload1 dX14_end_15 ?_
      refine Wx_putI 14 2 dX14_end_16 f_X14_158 rfl (Nat.le_of_ble_eq_true rfl) rfl rfl ?_
      refine Wx_iload1 dX14_end_19 ?_
      exact Wx_ireturn dX14_end_20 rfl rfl (⟨by rw [r_endM, if_neg h1, if_pos h2], by rw [t_endM, if_neg h1, if_pos h2]⟩)
    ·
      refine Wx_iconst (v := (-1)) dX14_end_12 (by decide) ?_
      exact Wx_ireturn dX14_end_13 rfl rfl (⟨by rw [r_endM, if_neg h1, if_neg h2], by rw [t_endM, if_neg h1, if_neg h2]⟩)
def r_fault (σ : Hp) (w : Int32) : Int32 := (if ¬ w = 0 then (if ¬ w = 1 then (-1) else (gI σ 0 5)) else (gI σ 0 4))
theorem w_fault (d : Nat) (σ : Hp) (w : Int32) : Cx yX11_fault cX11_fault 2 (some .int) (d) 122 122 [.ref 0, .int w] σ (fun o τ => o = .inl (some (.int (r_fault σ w))) ∧ τ = σ) := by
  refine Cx_of RX11 false (by decide) rfl (fun q => by cases q) (Nat.le_refl _) rfl (Nat.le_of_ble_eq_true rfl) ?_
  refine Wx_iload1 dX11_fault_0 ?_
  refine Wx_if_ne 9 dX11_fault_1 (by decide) (fun h1 => ?_) (fun h1 => ?_)
  ·
    refine Wx_iload1 dX11_fault_9 ?_
    refine Wx_iconst (v := 1) dX11_fault_10 (by decide) ?_
    refine Wx_icmp_ne 21 dX11_fault_11 (by decide) (fun h2 => ?_) (fun h2 => ?_)
    ·
      refine Wx_iconst (v := (-1)) dX11_fault_21 (by decide) ?_
      exact Wx_ireturn dX11_fault_22 rfl rfl (⟨by rw [r_fault, if_pos h1, if_pos h2], rfl⟩)
    ·
      refine Wx_aload0 dX11_fault_14 ?_
      refine Wx_getI 11 5 dX11_fault_15 f_X11_26 rfl (Nat.le_of_ble_eq_true rfl) rfl ?_
      refine Wx_goto 22 dX11_fault_18 (by decide) ?_
      exact Wx_ireturn dX11_fault_22 rfl rfl (⟨by rw [r_fault, if_pos h1, if_neg h2], rfl⟩)
  ·
    refine Wx_aload0 dX11_fault_4 ?_
    refine Wx_getI 11 4 dX11_fault_5 f_X11_23 rfl (Nat.le_of_ble_eq_true rfl) rfl ?_
    exact Wx_ireturn dX11_fault_8 rfl rfl (⟨by rw [r_fault, if_neg h1], rfl⟩)
def r_faultM (σ : Hp) (w : Int32) : Int32 := (if ¬ (gI σ 66 9) = 0 then (if ¬ w = 0 then (if ¬ w = 1 then (-1) else (gI σ 66 8)) else (gI σ 66 7)) else (-1))
theorem w_faultM (d : Nat) (σ : Hp) (w : Int32) : Cx yX14_fault_ cX14_fault_ 2 (some .int) (d) 122 122 [.ref 66, .int w] σ (fun o τ => o = .inl (some (.int (r_faultM σ w))) ∧ τ = σ) := by
  refine Cx_of RX14 false (by decide) rfl (fun q => by cases q) (Nat.le_refl _) rfl (Nat.le_of_ble_eq_true rfl) ?_
  refine Wx_aload0 dX14_fault__0 ?_
  refine Wx_getI 14 9 dX14_fault__1 f_X14_519 rfl (Nat.le_of_ble_eq_true rfl) rfl ?_
  refine Wx_if_ne 9 dX14_fault__4 (by decide) (fun h1 => ?_) (fun h1 => ?_)
  ·
    refine Wx_iload1 dX14_fault__9 ?_
    refine Wx_if_ne 20 dX14_fault__10 (by decide) (fun h2 => ?_) (fun h2 => ?_)
    ·
      refine Wx_iload1 dX14_fault__20 ?_
      refine Wx_iconst (v := 1) dX14_fault__21 (by decide) ?_
      refine Wx_icmp_ne 32 dX14_fault__22 (by decide) (fun h3 => ?_) (fun h3 => ?_)
      ·
        refine Wx_iconst (v := (-1)) dX14_fault__32 (by decide) ?_
        exact Wx_ireturn dX14_fault__33 rfl rfl (⟨by rw [r_faultM, if_pos h1, if_pos h2, if_pos h3], rfl⟩)
      ·
        refine Wx_aload0 dX14_fault__25 ?_
        refine Wx_getI 14 8 dX14_fault__26 f_X14_23 rfl (Nat.le_of_ble_eq_true rfl) rfl ?_
        refine Wx_goto 33 dX14_fault__29 (by decide) ?_
        exact Wx_ireturn dX14_fault__33 rfl rfl (⟨by rw [r_faultM, if_pos h1, if_pos h2, if_neg h3], rfl⟩)
    ·
      refine Wx_aload0 dX14_fault__13 ?_
      refine Wx_getI 14 7 dX14_fault__14 f_X14_164 rfl (Nat.le_of_ble_eq_true rfl) rfl ?_
      refine Wx_goto 33 dX14_fault__17 (by decide) ?_
      exact Wx_ireturn dX14_fault__33 rfl rfl (⟨by rw [r_faultM, if_pos h1, if_neg h2], rfl⟩)
  ·
    refine Wx_iconst (v := (-1)) dX14_fault__7 (by decide) ?_
    exact Wx_ireturn dX14_fault__8 rfl rfl (⟨by rw [r_faultM, if_neg h1], rfl⟩)
def r_peak (σ : Hp) : Int32 := (gI σ 63 3)
theorem w_peak (d : Nat) (σ : Hp) (hR : Rf σ) : Cx yX11_peak cX11_peak 1 (some .int) (d) 122 122 [.ref 0] σ (fun o τ => o = .inl (some (.int (r_peak σ))) ∧ τ = σ) := by
  refine Cx_of RX11 false (by decide) rfl (fun q => by cases q) (Nat.le_refl _) rfl (Nat.le_of_ble_eq_true rfl) ?_
  refine Wx_aload0 dX11_peak_0 ?_
  refine Wx_getR 11 15 63 dX11_peak_1 f_X11_97 rfl (Nat.le_of_ble_eq_true rfl) rfl (hR 0 15 63 (by decide)) ?_
  refine Wx_getI 6 3 dX11_peak_4 f_X11_215 rfl (Nat.le_of_ble_eq_true rfl) rfl ?_
  exact Wx_ireturn dX11_peak_7 rfl rfl (⟨by rw [r_peak], rfl⟩)
def r_peakM (σ : Hp) : Int32 := (gI σ 66 89)
theorem w_peakM (d : Nat) (σ : Hp) : Cx yX14_peak cX14_peak 1 (some .int) (d) 122 122 [.ref 66] σ (fun o τ => o = .inl (some (.int (r_peakM σ))) ∧ τ = σ) := by
  refine Cx_of RX14 false (by decide) rfl (fun q => by cases q) (Nat.le_refl _) rfl (Nat.le_of_ble_eq_true rfl) ?_
  refine Wx_aload0 dX14_peak_0 ?_
  refine Wx_getI 14 89 dX14_peak_1 f_X14_787 rfl (Nat.le_of_ble_eq_true rfl) rfl ?_
  exact Wx_ireturn dX14_peak_4 rfl rfl (⟨by rw [r_peakM], rfl⟩)
theorem dX11_count_0 : decode cX11_count 0 = .ok (.iload_n 1, 1) := by decide +kernel
theorem dX11_count_1 : decode cX11_count 1 = .ok (.tableswitch 105 0 7 #[47, 55, 63, 71, 79, 87, 92, 97], 47) := by decide +kernel
theorem dX11_count_48 : decode cX11_count 48 = .ok (.aload_n 0, 1) := by decide +kernel
theorem dX11_count_49 : decode cX11_count 49 = .ok (.getfield 55, 3) := by decide +kernel
theorem dX11_count_52 : decode cX11_count 52 = .ok (.getfield 128, 3) := by decide +kernel
theorem dX11_count_55 : decode cX11_count 55 = .ok (.ireturn, 1) := by decide +kernel
theorem dX11_count_56 : decode cX11_count 56 = .ok (.aload_n 0, 1) := by decide +kernel
theorem dX11_count_57 : decode cX11_count 57 = .ok (.getfield 55, 3) := by decide +kernel
theorem dX11_count_60 : decode cX11_count 60 = .ok (.getfield 131, 3) := by decide +kernel
theorem dX11_count_63 : decode cX11_count 63 = .ok (.ireturn, 1) := by decide +kernel
theorem dX11_count_64 : decode cX11_count 64 = .ok (.aload_n 0, 1) := by decide +kernel
theorem dX11_count_65 : decode cX11_count 65 = .ok (.getfield 55, 3) := by decide +kernel
theorem dX11_count_68 : decode cX11_count 68 = .ok (.getfield 134, 3) := by decide +kernel
theorem dX11_count_71 : decode cX11_count 71 = .ok (.ireturn, 1) := by decide +kernel
theorem dX11_count_72 : decode cX11_count 72 = .ok (.aload_n 0, 1) := by decide +kernel
theorem dX11_count_73 : decode cX11_count 73 = .ok (.getfield 55, 3) := by decide +kernel
theorem dX11_count_76 : decode cX11_count 76 = .ok (.getfield 137, 3) := by decide +kernel
theorem dX11_count_79 : decode cX11_count 79 = .ok (.ireturn, 1) := by decide +kernel
theorem dX11_count_80 : decode cX11_count 80 = .ok (.aload_n 0, 1) := by decide +kernel
theorem dX11_count_81 : decode cX11_count 81 = .ok (.getfield 55, 3) := by decide +kernel
theorem dX11_count_84 : decode cX11_count 84 = .ok (.getfield 140, 3) := by decide +kernel
theorem dX11_count_87 : decode cX11_count 87 = .ok (.ireturn, 1) := by decide +kernel
theorem dX11_count_88 : decode cX11_count 88 = .ok (.aload_n 0, 1) := by decide +kernel
theorem dX11_count_89 : decode cX11_count 89 = .ok (.getfield 20, 3) := by decide +kernel
theorem dX11_count_92 : decode cX11_count 92 = .ok (.ireturn, 1) := by decide +kernel
theorem dX11_count_93 : decode cX11_count 93 = .ok (.aload_n 0, 1) := by decide +kernel
theorem dX11_count_94 : decode cX11_count 94 = .ok (.getfield 13, 3) := by decide +kernel
theorem dX11_count_97 : decode cX11_count 97 = .ok (.ireturn, 1) := by decide +kernel
theorem dX11_count_98 : decode cX11_count 98 = .ok (.aload_n 0, 1) := by decide +kernel
theorem dX11_count_99 : decode cX11_count 99 = .ok (.getfield 83, 3) := by decide +kernel
theorem dX11_count_102 : decode cX11_count 102 = .ok (.getfield 143, 3) := by decide +kernel
theorem dX11_count_105 : decode cX11_count 105 = .ok (.ireturn, 1) := by decide +kernel
theorem dX11_count_106 : decode cX11_count 106 = .ok (.iconst (-1), 1) := by decide +kernel
theorem dX11_count_107 : decode cX11_count 107 = .ok (.ireturn, 1) := by decide +kernel
def r_count_21 (σ : Hp) (w : Int32) : Int32 := (if w = 0 then (gI σ 21 8) else (if w = 1 then (gI σ 21 10) else (if w = 2 then (gI σ 21 11) else (if w = 3 then (gI σ 21 12) else (if w = 4 then (gI σ 21 9) else (if w = 5 then (gI σ 0 3) else (if w = 6 then (gI σ 0 1) else (if w = 7 then (gI σ 50 3) else (-1)))))))))
theorem w_count_21 (d : Nat) (σ : Hp) (w : Int32) (hR : Rf σ) (hC : gR σ 0 9 = some 21) : Cx yX11_count cX11_count 2 (some .int) (d) 122 122 [.ref 0, .int w] σ (fun o τ => o = .inl (some (.int (r_count_21 σ w))) ∧ τ = σ) := by
  refine Cx_of RX11 false (by decide) rfl (fun q => by cases q) (Nat.le_refl _) rfl (Nat.le_of_ble_eq_true rfl) ?_
  refine Wx_iload1 dX11_count_0 ?_
  rcases sw_cases (w) 0 8 (by decide) (by decide) with ⟨kh1, hkh1, h1⟩ | h1
  · match kh1, hkh1 with
    | 0, _ =>
      have eh1 : w = 0 := h1.trans (by decide)
      refine Wx_tableIn 48 dX11_count_1 (by rw [eh1]; decide) (by rw [eh1]; decide) (by rw [eh1]; rfl) (by decide) ?_
      refine Wx_aload0 dX11_count_48 ?_
      refine Wx_getR 11 9 21 dX11_count_49 f_X11_55 rfl (Nat.le_of_ble_eq_true rfl) rfl hC ?_
      refine Wx_getI 8 8 dX11_count_52 f_X11_128 rfl (Nat.le_of_ble_eq_true rfl) rfl ?_
      exact Wx_ireturn dX11_count_55 rfl rfl (⟨by rw [r_count_21, if_pos eh1], rfl⟩)
    | 1, _ =>
      have eh1 : w = 1 := h1.trans (by decide)
      refine Wx_tableIn 56 dX11_count_1 (by rw [eh1]; decide) (by rw [eh1]; decide) (by rw [eh1]; rfl) (by decide) ?_
      refine Wx_aload0 dX11_count_56 ?_
      refine Wx_getR 11 9 21 dX11_count_57 f_X11_55 rfl (Nat.le_of_ble_eq_true rfl) rfl hC ?_
      refine Wx_getI 8 10 dX11_count_60 f_X11_131 rfl (Nat.le_of_ble_eq_true rfl) rfl ?_
      exact Wx_ireturn dX11_count_63 rfl rfl (⟨by rw [r_count_21, if_neg (show ¬ w = 0 by rw [eh1]; decide), if_pos eh1], rfl⟩)
    | 2, _ =>
      have eh1 : w = 2 := h1.trans (by decide)
      refine Wx_tableIn 64 dX11_count_1 (by rw [eh1]; decide) (by rw [eh1]; decide) (by rw [eh1]; rfl) (by decide) ?_
      refine Wx_aload0 dX11_count_64 ?_
      refine Wx_getR 11 9 21 dX11_count_65 f_X11_55 rfl (Nat.le_of_ble_eq_true rfl) rfl hC ?_
      refine Wx_getI 8 11 dX11_count_68 f_X11_134 rfl (Nat.le_of_ble_eq_true rfl) rfl ?_
      exact Wx_ireturn dX11_count_71 rfl rfl (⟨by rw [r_count_21, if_neg (show ¬ w = 0 by rw [eh1]; decide), if_neg (show ¬ w = 1 by rw [eh1]; decide), if_pos eh1], rfl⟩)
    | 3, _ =>
      have eh1 : w = 3 := h1.trans (by decide)
      refine Wx_tableIn 72 dX11_count_1 (by rw [eh1]; decide) (by rw [eh1]; decide) (by rw [eh1]; rfl) (by decide) ?_
      refine Wx_aload0 dX11_count_72 ?_
      refine Wx_getR 11 9 21 dX11_count_73 f_X11_55 rfl (Nat.le_of_ble_eq_true rfl) rfl hC ?_
      refine Wx_getI 8 12 dX11_count_76 f_X11_137 rfl (Nat.le_of_ble_eq_true rfl) rfl ?_
      exact Wx_ireturn dX11_count_79 rfl rfl (⟨by rw [r_count_21, if_neg (show ¬ w = 0 by rw [eh1]; decide), if_neg (show ¬ w = 1 by rw [eh1]; decide), if_neg (show ¬ w = 2 by rw [eh1]; decide), if_pos eh1], rfl⟩)
    | 4, _ =>
      have eh1 : w = 4 := h1.trans (by decide)
      refine Wx_tableIn 80 dX11_count_1 (by rw [eh1]; decide) (by rw [eh1]; decide) (by rw [eh1]; rfl) (by decide) ?_
      refine Wx_aload0 dX11_count_80 ?_
      refine Wx_getR 11 9 21 dX11_count_81 f_X11_55 rfl (Nat.le_of_ble_eq_true rfl) rfl hC ?_
      refine Wx_getI 8 9 dX11_count_84 f_X11_140 rfl (Nat.le_of_ble_eq_true rfl) rfl ?_
      exact Wx_ireturn dX11_count_87 rfl rfl (⟨by rw [r_count_21, if_neg (show ¬ w = 0 by rw [eh1]; decide), if_neg (show ¬ w = 1 by rw [eh1]; decide), if_neg (show ¬ w = 2 by rw [eh1]; decide), if_neg (show ¬ w = 3 by rw [eh1]; decide), if_pos eh1], rfl⟩)
    | 5, _ =>
      have eh1 : w = 5 := h1.trans (by decide)
      refine Wx_tableIn 88 dX11_count_1 (by rw [eh1]; decide) (by rw [eh1]; decide) (by rw [eh1]; rfl) (by decide) ?_
      refine Wx_aload0 dX11_count_88 ?_
      refine Wx_getI 11 3 dX11_count_89 f_X11_20 rfl (Nat.le_of_ble_eq_true rfl) rfl ?_
      exact Wx_ireturn dX11_count_92 rfl rfl (⟨by rw [r_count_21, if_neg (show ¬ w = 0 by rw [eh1]; decide), if_neg (show ¬ w = 1 by rw [eh1]; decide), if_neg (show ¬ w = 2 by rw [eh1]; decide), if_neg (show ¬ w = 3 by rw [eh1]; decide), if_neg (show ¬ w = 4 by rw [eh1]; decide), if_pos eh1], rfl⟩)
    | 6, _ =>
      have eh1 : w = 6 := h1.trans (by decide)
      refine Wx_tableIn 93 dX11_count_1 (by rw [eh1]; decide) (by rw [eh1]; decide) (by rw [eh1]; rfl) (by decide) ?_
      refine Wx_aload0 dX11_count_93 ?_
      refine Wx_getI 11 1 dX11_count_94 f_X11_13 rfl (Nat.le_of_ble_eq_true rfl) rfl ?_
      exact Wx_ireturn dX11_count_97 rfl rfl (⟨by rw [r_count_21, if_neg (show ¬ w = 0 by rw [eh1]; decide), if_neg (show ¬ w = 1 by rw [eh1]; decide), if_neg (show ¬ w = 2 by rw [eh1]; decide), if_neg (show ¬ w = 3 by rw [eh1]; decide), if_neg (show ¬ w = 4 by rw [eh1]; decide), if_neg (show ¬ w = 5 by rw [eh1]; decide), if_pos eh1], rfl⟩)
    | 7, _ =>
      have eh1 : w = 7 := h1.trans (by decide)
      refine Wx_tableIn 98 dX11_count_1 (by rw [eh1]; decide) (by rw [eh1]; decide) (by rw [eh1]; rfl) (by decide) ?_
      refine Wx_aload0 dX11_count_98 ?_
      refine Wx_getR 11 13 50 dX11_count_99 f_X11_83 rfl (Nat.le_of_ble_eq_true rfl) rfl (hR 0 13 50 (by decide)) ?_
      refine Wx_getI 7 3 dX11_count_102 f_X11_143 rfl (Nat.le_of_ble_eq_true rfl) rfl ?_
      exact Wx_ireturn dX11_count_105 rfl rfl (⟨by rw [r_count_21, if_neg (show ¬ w = 0 by rw [eh1]; decide), if_neg (show ¬ w = 1 by rw [eh1]; decide), if_neg (show ¬ w = 2 by rw [eh1]; decide), if_neg (show ¬ w = 3 by rw [eh1]; decide), if_neg (show ¬ w = 4 by rw [eh1]; decide), if_neg (show ¬ w = 5 by rw [eh1]; decide), if_neg (show ¬ w = 6 by rw [eh1]; decide), if_pos eh1], rfl⟩)
    | (q + 8), hq => exact absurd hq (by omega)
  · refine Wx_tableOut 106 dX11_count_1 (sw_out (by decide) h1) (by decide) ?_
    refine Wx_iconst (v := (-1)) dX11_count_106 (by decide) ?_
    exact Wx_ireturn dX11_count_107 rfl rfl (⟨by rw [r_count_21, if_neg (show ¬ w = 0 from fun q => h1 0 (by decide) (q.trans (by decide))), if_neg (show ¬ w = 1 from fun q => h1 1 (by decide) (q.trans (by decide))), if_neg (show ¬ w = 2 from fun q => h1 2 (by decide) (q.trans (by decide))), if_neg (show ¬ w = 3 from fun q => h1 3 (by decide) (q.trans (by decide))), if_neg (show ¬ w = 4 from fun q => h1 4 (by decide) (q.trans (by decide))), if_neg (show ¬ w = 5 from fun q => h1 5 (by decide) (q.trans (by decide))), if_neg (show ¬ w = 6 from fun q => h1 6 (by decide) (q.trans (by decide))), if_neg (show ¬ w = 7 from fun q => h1 7 (by decide) (q.trans (by decide)))], rfl⟩)
theorem dX11_rule_0 : decode cX11_rule 0 = .ok (.iload_n 1, 1) := by decide +kernel
theorem dX11_rule_1 : decode cX11_rule 1 = .ok (.ifCond .lt 24, 3) := by decide +kernel
theorem dX11_rule_4 : decode cX11_rule 4 = .ok (.iload_n 1, 1) := by decide +kernel
theorem dX11_rule_5 : decode cX11_rule 5 = .ok (.aload_n 0, 1) := by decide +kernel
theorem dX11_rule_6 : decode cX11_rule 6 = .ok (.getfield 55, 3) := by decide +kernel
theorem dX11_rule_9 : decode cX11_rule 9 = .ok (.getfield 128, 3) := by decide +kernel
theorem dX11_rule_12 : decode cX11_rule 12 = .ok (.if_icmp .ge 13, 3) := by decide +kernel
theorem dX11_rule_15 : decode cX11_rule 15 = .ok (.iload_n 2, 1) := by decide +kernel
theorem dX11_rule_16 : decode cX11_rule 16 = .ok (.ifCond .lt 9, 3) := by decide +kernel
theorem dX11_rule_19 : decode cX11_rule 19 = .ok (.iload_n 2, 1) := by decide +kernel
theorem dX11_rule_20 : decode cX11_rule 20 = .ok (.bipush 11, 2) := by decide +kernel
theorem dX11_rule_22 : decode cX11_rule 22 = .ok (.if_icmp .le 5, 3) := by decide +kernel
theorem dX11_rule_25 : decode cX11_rule 25 = .ok (.iconst (-1), 1) := by decide +kernel
theorem dX11_rule_26 : decode cX11_rule 26 = .ok (.ireturn, 1) := by decide +kernel
theorem dX11_rule_27 : decode cX11_rule 27 = .ok (.iload_n 2, 1) := by decide +kernel
theorem dX11_rule_28 : decode cX11_rule 28 = .ok (.iconst 3, 1) := by decide +kernel
theorem dX11_rule_29 : decode cX11_rule 29 = .ok (.if_icmp .ge 17, 3) := by decide +kernel
theorem dX11_rule_32 : decode cX11_rule 32 = .ok (.aload_n 0, 1) := by decide +kernel
theorem dX11_rule_33 : decode cX11_rule 33 = .ok (.getfield 55, 3) := by decide +kernel
theorem dX11_rule_36 : decode cX11_rule 36 = .ok (.getfield 144, 3) := by decide +kernel
theorem dX11_rule_39 : decode cX11_rule 39 = .ok (.iload_n 1, 1) := by decide +kernel
theorem dX11_rule_40 : decode cX11_rule 40 = .ok (.iaload, 1) := by decide +kernel
theorem dX11_rule_41 : decode cX11_rule 41 = .ok (.iload_n 2, 1) := by decide +kernel
theorem dX11_rule_42 : decode cX11_rule 42 = .ok (.ishr, 1) := by decide +kernel
theorem dX11_rule_43 : decode cX11_rule 43 = .ok (.iconst 1, 1) := by decide +kernel
theorem dX11_rule_44 : decode cX11_rule 44 = .ok (.iand, 1) := by decide +kernel
theorem dX11_rule_45 : decode cX11_rule 45 = .ok (.ireturn, 1) := by decide +kernel
theorem dX11_rule_46 : decode cX11_rule 46 = .ok (.iload_n 2, 1) := by decide +kernel
theorem dX11_rule_47 : decode cX11_rule 47 = .ok (.iconst 3, 1) := by decide +kernel
theorem dX11_rule_48 : decode cX11_rule 48 = .ok (.if_icmp .ne 15, 3) := by decide +kernel
theorem dX11_rule_51 : decode cX11_rule 51 = .ok (.aload_n 0, 1) := by decide +kernel
theorem dX11_rule_52 : decode cX11_rule 52 = .ok (.getfield 55, 3) := by decide +kernel
theorem dX11_rule_55 : decode cX11_rule 55 = .ok (.getfield 148, 3) := by decide +kernel
theorem dX11_rule_58 : decode cX11_rule 58 = .ok (.iload_n 1, 1) := by decide +kernel
theorem dX11_rule_59 : decode cX11_rule 59 = .ok (.iaload, 1) := by decide +kernel
theorem dX11_rule_60 : decode cX11_rule 60 = .ok (.goto 19, 3) := by decide +kernel
theorem dX11_rule_63 : decode cX11_rule 63 = .ok (.aload_n 0, 1) := by decide +kernel
theorem dX11_rule_64 : decode cX11_rule 64 = .ok (.getfield 55, 3) := by decide +kernel
theorem dX11_rule_67 : decode cX11_rule 67 = .ok (.getfield 151, 3) := by decide +kernel
theorem dX11_rule_70 : decode cX11_rule 70 = .ok (.bipush 8, 2) := by decide +kernel
theorem dX11_rule_72 : decode cX11_rule 72 = .ok (.iload_n 1, 1) := by decide +kernel
theorem dX11_rule_73 : decode cX11_rule 73 = .ok (.imul, 1) := by decide +kernel
theorem dX11_rule_74 : decode cX11_rule 74 = .ok (.iload_n 2, 1) := by decide +kernel
theorem dX11_rule_75 : decode cX11_rule 75 = .ok (.iadd, 1) := by decide +kernel
theorem dX11_rule_76 : decode cX11_rule 76 = .ok (.iconst 4, 1) := by decide +kernel
theorem dX11_rule_77 : decode cX11_rule 77 = .ok (.isub, 1) := by decide +kernel
theorem dX11_rule_78 : decode cX11_rule 78 = .ok (.iaload, 1) := by decide +kernel
theorem dX11_rule_79 : decode cX11_rule 79 = .ok (.ireturn, 1) := by decide +kernel
def r_rule_21 (σ : Hp) (k : Int32) (w : Int32) : Int32 := (if k < 0 then (-1) else (if (gI σ 21 8) ≤ k then (-1) else (if w < 0 then (-1) else (if w ≤ 11 then (if 3 ≤ w then (if ¬ w = 3 then (gA σ 28 ((((8 * k) + w) - 4) : Int32).toNatClampNeg) else (gA σ 29 (k : Int32).toNatClampNeg)) else (((((gA σ 27 (k : Int32).toNatClampNeg) : Int32) >>> ((w : Int32) &&& 31)) : Int32) &&& 1)) else (-1)))))
theorem w_rule_21 (d : Nat) (σ : Hp) (k : Int32) (w : Int32) (hR : Rf σ) (hC : gR σ 0 9 = some 21) (hb : (gI σ 21 8).toInt ≤ (60 : Nat)) : Cx yX11_rule cX11_rule 3 (some .int) (d) 122 122 [.ref 0, .int k, .int w] σ (fun o τ => o = .inl (some (.int (r_rule_21 σ k w))) ∧ τ = σ) := by
  refine Cx_of RX11 false (by decide) rfl (fun q => by cases q) (Nat.le_refl _) rfl (Nat.le_of_ble_eq_true rfl) ?_
  refine Wx_iload1 dX11_rule_0 ?_
  refine Wx_if_lt 25 dX11_rule_1 (by decide) (fun h1 => ?_) (fun h1 => ?_)
  ·
    refine Wx_iconst (v := (-1)) dX11_rule_25 (by decide) ?_
    exact Wx_ireturn dX11_rule_26 rfl rfl (⟨by rw [r_rule_21, if_pos h1], rfl⟩)
  ·
    refine Wx_iload1 dX11_rule_4 ?_
    refine Wx_aload0 dX11_rule_5 ?_
    refine Wx_getR 11 9 21 dX11_rule_6 f_X11_55 rfl (Nat.le_of_ble_eq_true rfl) rfl hC ?_
    refine Wx_getI 8 8 dX11_rule_9 f_X11_128 rfl (Nat.le_of_ble_eq_true rfl) rfl ?_
    refine Wx_icmp_ge 25 dX11_rule_12 (by decide) (fun h2 => ?_) (fun h2 => ?_)
    ·
      refine Wx_iconst (v := (-1)) dX11_rule_25 (by decide) ?_
      exact Wx_ireturn dX11_rule_26 rfl rfl (⟨by rw [r_rule_21, if_neg h1, if_pos h2], rfl⟩)
    ·
      refine Wx_iload2 dX11_rule_15 ?_
      refine Wx_if_lt 25 dX11_rule_16 (by decide) (fun h3 => ?_) (fun h3 => ?_)
      ·
        refine Wx_iconst (v := (-1)) dX11_rule_25 (by decide) ?_
        exact Wx_ireturn dX11_rule_26 rfl rfl (⟨by rw [r_rule_21, if_neg h1, if_neg h2, if_pos h3], rfl⟩)
      ·
        refine Wx_iload2 dX11_rule_19 ?_
        refine Wx_bipush (v := 11) dX11_rule_20 (by decide) ?_
        refine Wx_icmp_le 27 dX11_rule_22 (by decide) (fun h4 => ?_) (fun h4 => ?_)
        ·
          refine Wx_iload2 dX11_rule_27 ?_
          refine Wx_iconst (v := 3) dX11_rule_28 (by decide) ?_
          refine Wx_icmp_ge 46 dX11_rule_29 (by decide) (fun h5 => ?_) (fun h5 => ?_)
          ·
            refine Wx_iload2 dX11_rule_46 ?_
            refine Wx_iconst (v := 3) dX11_rule_47 (by decide) ?_
            refine Wx_icmp_ne 63 dX11_rule_48 (by decide) (fun h6 => ?_) (fun h6 => ?_)
            ·
              refine Wx_aload0 dX11_rule_63 ?_
              refine Wx_getR 11 9 21 dX11_rule_64 f_X11_55 rfl (Nat.le_of_ble_eq_true rfl) rfl hC ?_
              refine Wx_getR 8 6 28 dX11_rule_67 f_X11_151 rfl (Nat.le_of_ble_eq_true rfl) rfl (hR 21 6 28 (by decide)) ?_
              refine Wx_bipush (v := 8) dX11_rule_70 (by decide) ?_
              refine Wx_iload1 dX11_rule_72 ?_
              refine Wx_imul dX11_rule_73 ?_
              refine Wx_iload2 dX11_rule_74 ?_
              refine Wx_iadd dX11_rule_75 ?_
              refine Wx_iconst (v := 4) dX11_rule_76 (by decide) ?_
              refine Wx_isub dX11_rule_77 ?_
              refine Wx_iaload 480 dX11_rule_78 rfl (Nat.le_of_ble_eq_true rfl) (vin_abs 8 4 11 60 rfl h1 h2 hb (rule_w h5 h6) (rule_w2 h4) (by decide) (by decide) (by decide)) ?_
              exact Wx_ireturn dX11_rule_79 rfl rfl (⟨by rw [r_rule_21, if_neg h1, if_neg h2, if_neg h3, if_pos h4, if_pos h5, if_pos h6], rfl⟩)
            ·
              refine Wx_aload0 dX11_rule_51 ?_
              refine Wx_getR 11 9 21 dX11_rule_52 f_X11_55 rfl (Nat.le_of_ble_eq_true rfl) rfl hC ?_
              refine Wx_getR 8 7 29 dX11_rule_55 f_X11_148 rfl (Nat.le_of_ble_eq_true rfl) rfl (hR 21 7 29 (by decide)) ?_
              refine Wx_iload1 dX11_rule_58 ?_
              refine Wx_iaload 60 dX11_rule_59 rfl (Nat.le_of_ble_eq_true rfl) (vin1 h1 h2 hb) ?_
              refine Wx_goto 79 dX11_rule_60 (by decide) ?_
              exact Wx_ireturn dX11_rule_79 rfl rfl (⟨by rw [r_rule_21, if_neg h1, if_neg h2, if_neg h3, if_pos h4, if_pos h5, if_neg h6], rfl⟩)
          ·
            refine Wx_aload0 dX11_rule_32 ?_
            refine Wx_getR 11 9 21 dX11_rule_33 f_X11_55 rfl (Nat.le_of_ble_eq_true rfl) rfl hC ?_
            refine Wx_getR 8 5 27 dX11_rule_36 f_X11_144 rfl (Nat.le_of_ble_eq_true rfl) rfl (hR 21 5 27 (by decide)) ?_
            refine Wx_iload1 dX11_rule_39 ?_
            refine Wx_iaload 60 dX11_rule_40 rfl (Nat.le_of_ble_eq_true rfl) (vin1 h1 h2 hb) ?_
            refine Wx_iload2 dX11_rule_41 ?_
            refine Wx_ishr dX11_rule_42 ?_
            refine Wx_iconst (v := 1) dX11_rule_43 (by decide) ?_
            refine Wx_iand dX11_rule_44 ?_
            exact Wx_ireturn dX11_rule_45 rfl rfl (⟨by rw [r_rule_21, if_neg h1, if_neg h2, if_neg h3, if_pos h4, if_neg h5], rfl⟩)
        ·
          refine Wx_iconst (v := (-1)) dX11_rule_25 (by decide) ?_
          exact Wx_ireturn dX11_rule_26 rfl rfl (⟨by rw [r_rule_21, if_neg h1, if_neg h2, if_neg h3, if_neg h4], rfl⟩)
theorem dX11_program_0 : decode cX11_program 0 = .ok (.iload_n 1, 1) := by decide +kernel
theorem dX11_program_1 : decode cX11_program 1 = .ok (.ifCond .lt 14, 3) := by decide +kernel
theorem dX11_program_4 : decode cX11_program 4 = .ok (.iload_n 1, 1) := by decide +kernel
theorem dX11_program_5 : decode cX11_program 5 = .ok (.aload_n 0, 1) := by decide +kernel
theorem dX11_program_6 : decode cX11_program 6 = .ok (.getfield 55, 3) := by decide +kernel
theorem dX11_program_9 : decode cX11_program 9 = .ok (.getfield 131, 3) := by decide +kernel
theorem dX11_program_12 : decode cX11_program 12 = .ok (.if_icmp .lt 5, 3) := by decide +kernel
theorem dX11_program_15 : decode cX11_program 15 = .ok (.iconst (-1), 1) := by decide +kernel
theorem dX11_program_16 : decode cX11_program 16 = .ok (.ireturn, 1) := by decide +kernel
theorem dX11_program_17 : decode cX11_program 17 = .ok (.iload_n 2, 1) := by decide +kernel
theorem dX11_program_18 : decode cX11_program 18 = .ok (.tableswitch 70 0 3 #[30, 40, 50, 60], 30) := by decide +kernel
theorem dX11_program_48 : decode cX11_program 48 = .ok (.aload_n 0, 1) := by decide +kernel
theorem dX11_program_49 : decode cX11_program 49 = .ok (.getfield 55, 3) := by decide +kernel
theorem dX11_program_52 : decode cX11_program 52 = .ok (.getfield 154, 3) := by decide +kernel
theorem dX11_program_55 : decode cX11_program 55 = .ok (.iload_n 1, 1) := by decide +kernel
theorem dX11_program_56 : decode cX11_program 56 = .ok (.iaload, 1) := by decide +kernel
theorem dX11_program_57 : decode cX11_program 57 = .ok (.ireturn, 1) := by decide +kernel
theorem dX11_program_58 : decode cX11_program 58 = .ok (.aload_n 0, 1) := by decide +kernel
theorem dX11_program_59 : decode cX11_program 59 = .ok (.getfield 55, 3) := by decide +kernel
theorem dX11_program_62 : decode cX11_program 62 = .ok (.getfield 157, 3) := by decide +kernel
theorem dX11_program_65 : decode cX11_program 65 = .ok (.iload_n 1, 1) := by decide +kernel
theorem dX11_program_66 : decode cX11_program 66 = .ok (.iaload, 1) := by decide +kernel
theorem dX11_program_67 : decode cX11_program 67 = .ok (.ireturn, 1) := by decide +kernel
theorem dX11_program_68 : decode cX11_program 68 = .ok (.aload_n 0, 1) := by decide +kernel
theorem dX11_program_69 : decode cX11_program 69 = .ok (.getfield 55, 3) := by decide +kernel
theorem dX11_program_72 : decode cX11_program 72 = .ok (.getfield 160, 3) := by decide +kernel
theorem dX11_program_75 : decode cX11_program 75 = .ok (.iload_n 1, 1) := by decide +kernel
theorem dX11_program_76 : decode cX11_program 76 = .ok (.iaload, 1) := by decide +kernel
theorem dX11_program_77 : decode cX11_program 77 = .ok (.ireturn, 1) := by decide +kernel
theorem dX11_program_78 : decode cX11_program 78 = .ok (.aload_n 0, 1) := by decide +kernel
theorem dX11_program_79 : decode cX11_program 79 = .ok (.getfield 55, 3) := by decide +kernel
theorem dX11_program_82 : decode cX11_program 82 = .ok (.getfield 163, 3) := by decide +kernel
theorem dX11_program_85 : decode cX11_program 85 = .ok (.iload_n 1, 1) := by decide +kernel
theorem dX11_program_86 : decode cX11_program 86 = .ok (.iaload, 1) := by decide +kernel
theorem dX11_program_87 : decode cX11_program 87 = .ok (.ireturn, 1) := by decide +kernel
theorem dX11_program_88 : decode cX11_program 88 = .ok (.iconst (-1), 1) := by decide +kernel
theorem dX11_program_89 : decode cX11_program 89 = .ok (.ireturn, 1) := by decide +kernel
def r_program_21 (σ : Hp) (i : Int32) (w : Int32) : Int32 := (if i < 0 then (-1) else (if i < (gI σ 21 10) then (if w = 0 then (gA σ 22 (i : Int32).toNatClampNeg) else (if w = 1 then (gA σ 23 (i : Int32).toNatClampNeg) else (if w = 2 then (gA σ 24 (i : Int32).toNatClampNeg) else (if w = 3 then (gA σ 25 (i : Int32).toNatClampNeg) else (-1))))) else (-1)))
theorem w_program_21 (d : Nat) (σ : Hp) (i : Int32) (w : Int32) (hR : Rf σ) (hC : gR σ 0 9 = some 21) (hb : (gI σ 21 10).toInt ≤ (2000 : Nat)) : Cx yX11_program cX11_program 3 (some .int) (d) 122 122 [.ref 0, .int i, .int w] σ (fun o τ => o = .inl (some (.int (r_program_21 σ i w))) ∧ τ = σ) := by
  refine Cx_of RX11 false (by decide) rfl (fun q => by cases q) (Nat.le_refl _) rfl (Nat.le_of_ble_eq_true rfl) ?_
  refine Wx_iload1 dX11_program_0 ?_
  refine Wx_if_lt 15 dX11_program_1 (by decide) (fun h1 => ?_) (fun h1 => ?_)
  ·
    refine Wx_iconst (v := (-1)) dX11_program_15 (by decide) ?_
    exact Wx_ireturn dX11_program_16 rfl rfl (⟨by rw [r_program_21, if_pos h1], rfl⟩)
  ·
    refine Wx_iload1 dX11_program_4 ?_
    refine Wx_aload0 dX11_program_5 ?_
    refine Wx_getR 11 9 21 dX11_program_6 f_X11_55 rfl (Nat.le_of_ble_eq_true rfl) rfl hC ?_
    refine Wx_getI 8 10 dX11_program_9 f_X11_131 rfl (Nat.le_of_ble_eq_true rfl) rfl ?_
    refine Wx_icmp_lt 17 dX11_program_12 (by decide) (fun h2 => ?_) (fun h2 => ?_)
    ·
      refine Wx_iload2 dX11_program_17 ?_
      rcases sw_cases (w) 0 4 (by decide) (by decide) with ⟨kh3, hkh3, h3⟩ | h3
      · match kh3, hkh3 with
        | 0, _ =>
          have eh3 : w = 0 := h3.trans (by decide)
          refine Wx_tableIn 48 dX11_program_18 (by rw [eh3]; decide) (by rw [eh3]; decide) (by rw [eh3]; rfl) (by decide) ?_
          refine Wx_aload0 dX11_program_48 ?_
          refine Wx_getR 11 9 21 dX11_program_49 f_X11_55 rfl (Nat.le_of_ble_eq_true rfl) rfl hC ?_
          refine Wx_getR 8 0 22 dX11_program_52 f_X11_154 rfl (Nat.le_of_ble_eq_true rfl) rfl (hR 21 0 22 (by decide)) ?_
          refine Wx_iload1 dX11_program_55 ?_
          refine Wx_iaload 2000 dX11_program_56 rfl (Nat.le_of_ble_eq_true rfl) (vin2 h1 h2 (Int.le_trans hb (by decide))) ?_
          exact Wx_ireturn dX11_program_57 rfl rfl (⟨by rw [r_program_21, if_neg h1, if_pos h2, if_pos eh3], rfl⟩)
        | 1, _ =>
          have eh3 : w = 1 := h3.trans (by decide)
          refine Wx_tableIn 58 dX11_program_18 (by rw [eh3]; decide) (by rw [eh3]; decide) (by rw [eh3]; rfl) (by decide) ?_
          refine Wx_aload0 dX11_program_58 ?_
          refine Wx_getR 11 9 21 dX11_program_59 f_X11_55 rfl (Nat.le_of_ble_eq_true rfl) rfl hC ?_
          refine Wx_getR 8 1 23 dX11_program_62 f_X11_157 rfl (Nat.le_of_ble_eq_true rfl) rfl (hR 21 1 23 (by decide)) ?_
          refine Wx_iload1 dX11_program_65 ?_
          refine Wx_iaload 2000 dX11_program_66 rfl (Nat.le_of_ble_eq_true rfl) (vin2 h1 h2 (Int.le_trans hb (by decide))) ?_
          exact Wx_ireturn dX11_program_67 rfl rfl (⟨by rw [r_program_21, if_neg h1, if_pos h2, if_neg (show ¬ w = 0 by rw [eh3]; decide), if_pos eh3], rfl⟩)
        | 2, _ =>
          have eh3 : w = 2 := h3.trans (by decide)
          refine Wx_tableIn 68 dX11_program_18 (by rw [eh3]; decide) (by rw [eh3]; decide) (by rw [eh3]; rfl) (by decide) ?_
          refine Wx_aload0 dX11_program_68 ?_
          refine Wx_getR 11 9 21 dX11_program_69 f_X11_55 rfl (Nat.le_of_ble_eq_true rfl) rfl hC ?_
          refine Wx_getR 8 2 24 dX11_program_72 f_X11_160 rfl (Nat.le_of_ble_eq_true rfl) rfl (hR 21 2 24 (by decide)) ?_
          refine Wx_iload1 dX11_program_75 ?_
          refine Wx_iaload 2000 dX11_program_76 rfl (Nat.le_of_ble_eq_true rfl) (vin2 h1 h2 (Int.le_trans hb (by decide))) ?_
          exact Wx_ireturn dX11_program_77 rfl rfl (⟨by rw [r_program_21, if_neg h1, if_pos h2, if_neg (show ¬ w = 0 by rw [eh3]; decide), if_neg (show ¬ w = 1 by rw [eh3]; decide), if_pos eh3], rfl⟩)
        | 3, _ =>
          have eh3 : w = 3 := h3.trans (by decide)
          refine Wx_tableIn 78 dX11_program_18 (by rw [eh3]; decide) (by rw [eh3]; decide) (by rw [eh3]; rfl) (by decide) ?_
          refine Wx_aload0 dX11_program_78 ?_
          refine Wx_getR 11 9 21 dX11_program_79 f_X11_55 rfl (Nat.le_of_ble_eq_true rfl) rfl hC ?_
          refine Wx_getR 8 3 25 dX11_program_82 f_X11_163 rfl (Nat.le_of_ble_eq_true rfl) rfl (hR 21 3 25 (by decide)) ?_
          refine Wx_iload1 dX11_program_85 ?_
          refine Wx_iaload 2003 dX11_program_86 rfl (Nat.le_of_ble_eq_true rfl) (vin2 h1 h2 (Int.le_trans hb (by decide))) ?_
          exact Wx_ireturn dX11_program_87 rfl rfl (⟨by rw [r_program_21, if_neg h1, if_pos h2, if_neg (show ¬ w = 0 by rw [eh3]; decide), if_neg (show ¬ w = 1 by rw [eh3]; decide), if_neg (show ¬ w = 2 by rw [eh3]; decide), if_pos eh3], rfl⟩)
        | (q + 4), hq => exact absurd hq (by omega)
      · refine Wx_tableOut 88 dX11_program_18 (sw_out (by decide) h3) (by decide) ?_
        refine Wx_iconst (v := (-1)) dX11_program_88 (by decide) ?_
        exact Wx_ireturn dX11_program_89 rfl rfl (⟨by rw [r_program_21, if_neg h1, if_pos h2, if_neg (show ¬ w = 0 from fun q => h3 0 (by decide) (q.trans (by decide))), if_neg (show ¬ w = 1 from fun q => h3 1 (by decide) (q.trans (by decide))), if_neg (show ¬ w = 2 from fun q => h3 2 (by decide) (q.trans (by decide))), if_neg (show ¬ w = 3 from fun q => h3 3 (by decide) (q.trans (by decide)))], rfl⟩)
    ·
      refine Wx_iconst (v := (-1)) dX11_program_15 (by decide) ?_
      exact Wx_ireturn dX11_program_16 rfl rfl (⟨by rw [r_program_21, if_neg h1, if_neg h2], rfl⟩)
theorem dX11_set_0 : decode cX11_set 0 = .ok (.iload_n 1, 1) := by decide +kernel
theorem dX11_set_1 : decode cX11_set 1 = .ok (.ifCond .lt 24, 3) := by decide +kernel
theorem dX11_set_4 : decode cX11_set 4 = .ok (.iload_n 1, 1) := by decide +kernel
theorem dX11_set_5 : decode cX11_set 5 = .ok (.aload_n 0, 1) := by decide +kernel
theorem dX11_set_6 : decode cX11_set 6 = .ok (.getfield 55, 3) := by decide +kernel
theorem dX11_set_9 : decode cX11_set 9 = .ok (.getfield 134, 3) := by decide +kernel
theorem dX11_set_12 : decode cX11_set 12 = .ok (.if_icmp .ge 13, 3) := by decide +kernel
theorem dX11_set_15 : decode cX11_set 15 = .ok (.iload_n 2, 1) := by decide +kernel
theorem dX11_set_16 : decode cX11_set 16 = .ok (.ifCond .lt 9, 3) := by decide +kernel
theorem dX11_set_19 : decode cX11_set 19 = .ok (.iload_n 2, 1) := by decide +kernel
theorem dX11_set_20 : decode cX11_set 20 = .ok (.bipush 7, 2) := by decide +kernel
theorem dX11_set_22 : decode cX11_set 22 = .ok (.if_icmp .le 5, 3) := by decide +kernel
theorem dX11_set_25 : decode cX11_set 25 = .ok (.iconst 0, 1) := by decide +kernel
theorem dX11_set_26 : decode cX11_set 26 = .ok (.ireturn, 1) := by decide +kernel
theorem dX11_set_27 : decode cX11_set 27 = .ok (.aload_n 0, 1) := by decide +kernel
theorem dX11_set_28 : decode cX11_set 28 = .ok (.getfield 55, 3) := by decide +kernel
theorem dX11_set_31 : decode cX11_set 31 = .ok (.getfield 166, 3) := by decide +kernel
theorem dX11_set_34 : decode cX11_set 34 = .ok (.bipush 8, 2) := by decide +kernel
theorem dX11_set_36 : decode cX11_set 36 = .ok (.iload_n 1, 1) := by decide +kernel
theorem dX11_set_37 : decode cX11_set 37 = .ok (.imul, 1) := by decide +kernel
theorem dX11_set_38 : decode cX11_set 38 = .ok (.iload_n 2, 1) := by decide +kernel
theorem dX11_set_39 : decode cX11_set 39 = .ok (.iadd, 1) := by decide +kernel
theorem dX11_set_40 : decode cX11_set 40 = .ok (.iaload, 1) := by decide +kernel
theorem dX11_set_41 : decode cX11_set 41 = .ok (.ireturn, 1) := by decide +kernel
def r_set_21 (σ : Hp) (k : Int32) (w : Int32) : Int32 := (if k < 0 then 0 else (if (gI σ 21 11) ≤ k then 0 else (if w < 0 then 0 else (if w ≤ 7 then (gA σ 26 (((8 * k) + w) : Int32).toNatClampNeg) else 0))))
theorem w_set_21 (d : Nat) (σ : Hp) (k : Int32) (w : Int32) (hR : Rf σ) (hC : gR σ 0 9 = some 21) (hb : (gI σ 21 11).toInt ≤ (128 : Nat)) : Cx yX11_set cX11_set 3 (some .int) (d) 122 122 [.ref 0, .int k, .int w] σ (fun o τ => o = .inl (some (.int (r_set_21 σ k w))) ∧ τ = σ) := by
  refine Cx_of RX11 false (by decide) rfl (fun q => by cases q) (Nat.le_refl _) rfl (Nat.le_of_ble_eq_true rfl) ?_
  refine Wx_iload1 dX11_set_0 ?_
  refine Wx_if_lt 25 dX11_set_1 (by decide) (fun h1 => ?_) (fun h1 => ?_)
  ·
    refine Wx_iconst (v := 0) dX11_set_25 (by decide) ?_
    exact Wx_ireturn dX11_set_26 rfl rfl (⟨by rw [r_set_21, if_pos h1], rfl⟩)
  ·
    refine Wx_iload1 dX11_set_4 ?_
    refine Wx_aload0 dX11_set_5 ?_
    refine Wx_getR 11 9 21 dX11_set_6 f_X11_55 rfl (Nat.le_of_ble_eq_true rfl) rfl hC ?_
    refine Wx_getI 8 11 dX11_set_9 f_X11_134 rfl (Nat.le_of_ble_eq_true rfl) rfl ?_
    refine Wx_icmp_ge 25 dX11_set_12 (by decide) (fun h2 => ?_) (fun h2 => ?_)
    ·
      refine Wx_iconst (v := 0) dX11_set_25 (by decide) ?_
      exact Wx_ireturn dX11_set_26 rfl rfl (⟨by rw [r_set_21, if_neg h1, if_pos h2], rfl⟩)
    ·
      refine Wx_iload2 dX11_set_15 ?_
      refine Wx_if_lt 25 dX11_set_16 (by decide) (fun h3 => ?_) (fun h3 => ?_)
      ·
        refine Wx_iconst (v := 0) dX11_set_25 (by decide) ?_
        exact Wx_ireturn dX11_set_26 rfl rfl (⟨by rw [r_set_21, if_neg h1, if_neg h2, if_pos h3], rfl⟩)
      ·
        refine Wx_iload2 dX11_set_19 ?_
        refine Wx_bipush (v := 7) dX11_set_20 (by decide) ?_
        refine Wx_icmp_le 27 dX11_set_22 (by decide) (fun h4 => ?_) (fun h4 => ?_)
        ·
          refine Wx_aload0 dX11_set_27 ?_
          refine Wx_getR 11 9 21 dX11_set_28 f_X11_55 rfl (Nat.le_of_ble_eq_true rfl) rfl hC ?_
          refine Wx_getR 8 4 26 dX11_set_31 f_X11_166 rfl (Nat.le_of_ble_eq_true rfl) rfl (hR 21 4 26 (by decide)) ?_
          refine Wx_bipush (v := 8) dX11_set_34 (by decide) ?_
          refine Wx_iload1 dX11_set_36 ?_
          refine Wx_imul dX11_set_37 ?_
          refine Wx_iload2 dX11_set_38 ?_
          refine Wx_iadd dX11_set_39 ?_
          refine Wx_iaload 1024 dX11_set_40 rfl (Nat.le_of_ble_eq_true rfl) (vin_ab 8 7 128 rfl h1 h2 hb h3 (set_w h4) (by decide) (by decide) (by decide)) ?_
          exact Wx_ireturn dX11_set_41 rfl rfl (⟨by rw [r_set_21, if_neg h1, if_neg h2, if_neg h3, if_pos h4], rfl⟩)
        ·
          refine Wx_iconst (v := 0) dX11_set_25 (by decide) ?_
          exact Wx_ireturn dX11_set_26 rfl rfl (⟨by rw [r_set_21, if_neg h1, if_neg h2, if_neg h3, if_neg h4], rfl⟩)
theorem dX11_image_0 : decode cX11_image 0 = .ok (.iload_n 1, 1) := by decide +kernel
theorem dX11_image_1 : decode cX11_image 1 = .ok (.ifCond .lt 14, 3) := by decide +kernel
theorem dX11_image_4 : decode cX11_image 4 = .ok (.iload_n 1, 1) := by decide +kernel
theorem dX11_image_5 : decode cX11_image 5 = .ok (.aload_n 0, 1) := by decide +kernel
theorem dX11_image_6 : decode cX11_image 6 = .ok (.getfield 55, 3) := by decide +kernel
theorem dX11_image_9 : decode cX11_image 9 = .ok (.getfield 137, 3) := by decide +kernel
theorem dX11_image_12 : decode cX11_image 12 = .ok (.if_icmp .lt 5, 3) := by decide +kernel
theorem dX11_image_15 : decode cX11_image 15 = .ok (.iconst (-1), 1) := by decide +kernel
theorem dX11_image_16 : decode cX11_image 16 = .ok (.ireturn, 1) := by decide +kernel
theorem dX11_image_17 : decode cX11_image 17 = .ok (.aload_n 0, 1) := by decide +kernel
theorem dX11_image_18 : decode cX11_image 18 = .ok (.getfield 76, 3) := by decide +kernel
theorem dX11_image_21 : decode cX11_image 21 = .ok (.getfield 169, 3) := by decide +kernel
theorem dX11_image_24 : decode cX11_image 24 = .ok (.iload_n 1, 1) := by decide +kernel
theorem dX11_image_25 : decode cX11_image 25 = .ok (.baload, 1) := by decide +kernel
theorem dX11_image_26 : decode cX11_image 26 = .ok (.sipush 255, 3) := by decide +kernel
theorem dX11_image_29 : decode cX11_image 29 = .ok (.iand, 1) := by decide +kernel
theorem dX11_image_30 : decode cX11_image 30 = .ok (.ireturn, 1) := by decide +kernel
def r_image_21 (σ : Hp) (i : Int32) : Int32 := (if i < 0 then (-1) else (if i < (gI σ 21 12) then (((gA σ 45 (i : Int32).toNatClampNeg) : Int32) &&& 255) else (-1)))
theorem w_image_21 (d : Nat) (σ : Hp) (i : Int32) (hR : Rf σ) (hC : gR σ 0 9 = some 21) (hb : (gI σ 21 12).toInt ≤ (61440 : Nat)) : Cx yX11_image cX11_image 2 (some .int) (d) 122 122 [.ref 0, .int i] σ (fun o τ => o = .inl (some (.int (r_image_21 σ i))) ∧ τ = σ) := by
  refine Cx_of RX11 false (by decide) rfl (fun q => by cases q) (Nat.le_refl _) rfl (Nat.le_of_ble_eq_true rfl) ?_
  refine Wx_iload1 dX11_image_0 ?_
  refine Wx_if_lt 15 dX11_image_1 (by decide) (fun h1 => ?_) (fun h1 => ?_)
  ·
    refine Wx_iconst (v := (-1)) dX11_image_15 (by decide) ?_
    exact Wx_ireturn dX11_image_16 rfl rfl (⟨by rw [r_image_21, if_pos h1], rfl⟩)
  ·
    refine Wx_iload1 dX11_image_4 ?_
    refine Wx_aload0 dX11_image_5 ?_
    refine Wx_getR 11 9 21 dX11_image_6 f_X11_55 rfl (Nat.le_of_ble_eq_true rfl) rfl hC ?_
    refine Wx_getI 8 12 dX11_image_9 f_X11_137 rfl (Nat.le_of_ble_eq_true rfl) rfl ?_
    refine Wx_icmp_lt 17 dX11_image_12 (by decide) (fun h2 => ?_) (fun h2 => ?_)
    ·
      refine Wx_aload0 dX11_image_17 ?_
      refine Wx_getR 11 12 44 dX11_image_18 f_X11_76 rfl (Nat.le_of_ble_eq_true rfl) rfl (hR 0 12 44 (by decide)) ?_
      refine Wx_getR 1 0 45 dX11_image_21 f_X11_169 rfl (Nat.le_of_ble_eq_true rfl) rfl (hR 44 0 45 (by decide)) ?_
      refine Wx_iload1 dX11_image_24 ?_
      refine Wx_baload 61440 dX11_image_25 rfl (Nat.le_of_ble_eq_true rfl) (vin2 h1 h2 hb) ?_
      refine Wx_sipush (v := 255) dX11_image_26 (by decide) ?_
      refine Wx_iand dX11_image_29 ?_
      exact Wx_ireturn dX11_image_30 rfl rfl (⟨by rw [r_image_21, if_neg h1, if_pos h2], rfl⟩)
    ·
      refine Wx_iconst (v := (-1)) dX11_image_15 (by decide) ?_
      exact Wx_ireturn dX11_image_16 rfl rfl (⟨by rw [r_image_21, if_neg h1, if_neg h2], rfl⟩)
def r_count_30 (σ : Hp) (w : Int32) : Int32 := (if w = 0 then (gI σ 30 8) else (if w = 1 then (gI σ 30 10) else (if w = 2 then (gI σ 30 11) else (if w = 3 then (gI σ 30 12) else (if w = 4 then (gI σ 30 9) else (if w = 5 then (gI σ 0 3) else (if w = 6 then (gI σ 0 1) else (if w = 7 then (gI σ 50 3) else (-1)))))))))
theorem w_count_30 (d : Nat) (σ : Hp) (w : Int32) (hR : Rf σ) (hC : gR σ 0 9 = some 30) : Cx yX11_count cX11_count 2 (some .int) (d) 122 122 [.ref 0, .int w] σ (fun o τ => o = .inl (some (.int (r_count_30 σ w))) ∧ τ = σ) := by
  refine Cx_of RX11 false (by decide) rfl (fun q => by cases q) (Nat.le_refl _) rfl (Nat.le_of_ble_eq_true rfl) ?_
  refine Wx_iload1 dX11_count_0 ?_
  rcases sw_cases (w) 0 8 (by decide) (by decide) with ⟨kh1, hkh1, h1⟩ | h1
  · match kh1, hkh1 with
    | 0, _ =>
      have eh1 : w = 0 := h1.trans (by decide)
      refine Wx_tableIn 48 dX11_count_1 (by rw [eh1]; decide) (by rw [eh1]; decide) (by rw [eh1]; rfl) (by decide) ?_
      refine Wx_aload0 dX11_count_48 ?_
      refine Wx_getR 11 9 30 dX11_count_49 f_X11_55 rfl (Nat.le_of_ble_eq_true rfl) rfl hC ?_
      refine Wx_getI 8 8 dX11_count_52 f_X11_128 rfl (Nat.le_of_ble_eq_true rfl) rfl ?_
      exact Wx_ireturn dX11_count_55 rfl rfl (⟨by rw [r_count_30, if_pos eh1], rfl⟩)
    | 1, _ =>
      have eh1 : w = 1 := h1.trans (by decide)
      refine Wx_tableIn 56 dX11_count_1 (by rw [eh1]; decide) (by rw [eh1]; decide) (by rw [eh1]; rfl) (by decide) ?_
      refine Wx_aload0 dX11_count_56 ?_
      refine Wx_getR 11 9 30 dX11_count_57 f_X11_55 rfl (Nat.le_of_ble_eq_true rfl) rfl hC ?_
      refine Wx_getI 8 10 dX11_count_60 f_X11_131 rfl (Nat.le_of_ble_eq_true rfl) rfl ?_
      exact Wx_ireturn dX11_count_63 rfl rfl (⟨by rw [r_count_30, if_neg (show ¬ w = 0 by rw [eh1]; decide), if_pos eh1], rfl⟩)
    | 2, _ =>
      have eh1 : w = 2 := h1.trans (by decide)
      refine Wx_tableIn 64 dX11_count_1 (by rw [eh1]; decide) (by rw [eh1]; decide) (by rw [eh1]; rfl) (by decide) ?_
      refine Wx_aload0 dX11_count_64 ?_
      refine Wx_getR 11 9 30 dX11_count_65 f_X11_55 rfl (Nat.le_of_ble_eq_true rfl) rfl hC ?_
      refine Wx_getI 8 11 dX11_count_68 f_X11_134 rfl (Nat.le_of_ble_eq_true rfl) rfl ?_
      exact Wx_ireturn dX11_count_71 rfl rfl (⟨by rw [r_count_30, if_neg (show ¬ w = 0 by rw [eh1]; decide), if_neg (show ¬ w = 1 by rw [eh1]; decide), if_pos eh1], rfl⟩)
    | 3, _ =>
      have eh1 : w = 3 := h1.trans (by decide)
      refine Wx_tableIn 72 dX11_count_1 (by rw [eh1]; decide) (by rw [eh1]; decide) (by rw [eh1]; rfl) (by decide) ?_
      refine Wx_aload0 dX11_count_72 ?_
      refine Wx_getR 11 9 30 dX11_count_73 f_X11_55 rfl (Nat.le_of_ble_eq_true rfl) rfl hC ?_
      refine Wx_getI 8 12 dX11_count_76 f_X11_137 rfl (Nat.le_of_ble_eq_true rfl) rfl ?_
      exact Wx_ireturn dX11_count_79 rfl rfl (⟨by rw [r_count_30, if_neg (show ¬ w = 0 by rw [eh1]; decide), if_neg (show ¬ w = 1 by rw [eh1]; decide), if_neg (show ¬ w = 2 by rw [eh1]; decide), if_pos eh1], rfl⟩)
    | 4, _ =>
      have eh1 : w = 4 := h1.trans (by decide)
      refine Wx_tableIn 80 dX11_count_1 (by rw [eh1]; decide) (by rw [eh1]; decide) (by rw [eh1]; rfl) (by decide) ?_
      refine Wx_aload0 dX11_count_80 ?_
      refine Wx_getR 11 9 30 dX11_count_81 f_X11_55 rfl (Nat.le_of_ble_eq_true rfl) rfl hC ?_
      refine Wx_getI 8 9 dX11_count_84 f_X11_140 rfl (Nat.le_of_ble_eq_true rfl) rfl ?_
      exact Wx_ireturn dX11_count_87 rfl rfl (⟨by rw [r_count_30, if_neg (show ¬ w = 0 by rw [eh1]; decide), if_neg (show ¬ w = 1 by rw [eh1]; decide), if_neg (show ¬ w = 2 by rw [eh1]; decide), if_neg (show ¬ w = 3 by rw [eh1]; decide), if_pos eh1], rfl⟩)
    | 5, _ =>
      have eh1 : w = 5 := h1.trans (by decide)
      refine Wx_tableIn 88 dX11_count_1 (by rw [eh1]; decide) (by rw [eh1]; decide) (by rw [eh1]; rfl) (by decide) ?_
      refine Wx_aload0 dX11_count_88 ?_
      refine Wx_getI 11 3 dX11_count_89 f_X11_20 rfl (Nat.le_of_ble_eq_true rfl) rfl ?_
      exact Wx_ireturn dX11_count_92 rfl rfl (⟨by rw [r_count_30, if_neg (show ¬ w = 0 by rw [eh1]; decide), if_neg (show ¬ w = 1 by rw [eh1]; decide), if_neg (show ¬ w = 2 by rw [eh1]; decide), if_neg (show ¬ w = 3 by rw [eh1]; decide), if_neg (show ¬ w = 4 by rw [eh1]; decide), if_pos eh1], rfl⟩)
    | 6, _ =>
      have eh1 : w = 6 := h1.trans (by decide)
      refine Wx_tableIn 93 dX11_count_1 (by rw [eh1]; decide) (by rw [eh1]; decide) (by rw [eh1]; rfl) (by decide) ?_
      refine Wx_aload0 dX11_count_93 ?_
      refine Wx_getI 11 1 dX11_count_94 f_X11_13 rfl (Nat.le_of_ble_eq_true rfl) rfl ?_
      exact Wx_ireturn dX11_count_97 rfl rfl (⟨by rw [r_count_30, if_neg (show ¬ w = 0 by rw [eh1]; decide), if_neg (show ¬ w = 1 by rw [eh1]; decide), if_neg (show ¬ w = 2 by rw [eh1]; decide), if_neg (show ¬ w = 3 by rw [eh1]; decide), if_neg (show ¬ w = 4 by rw [eh1]; decide), if_neg (show ¬ w = 5 by rw [eh1]; decide), if_pos eh1], rfl⟩)
    | 7, _ =>
      have eh1 : w = 7 := h1.trans (by decide)
      refine Wx_tableIn 98 dX11_count_1 (by rw [eh1]; decide) (by rw [eh1]; decide) (by rw [eh1]; rfl) (by decide) ?_
      refine Wx_aload0 dX11_count_98 ?_
      refine Wx_getR 11 13 50 dX11_count_99 f_X11_83 rfl (Nat.le_of_ble_eq_true rfl) rfl (hR 0 13 50 (by decide)) ?_
      refine Wx_getI 7 3 dX11_count_102 f_X11_143 rfl (Nat.le_of_ble_eq_true rfl) rfl ?_
      exact Wx_ireturn dX11_count_105 rfl rfl (⟨by rw [r_count_30, if_neg (show ¬ w = 0 by rw [eh1]; decide), if_neg (show ¬ w = 1 by rw [eh1]; decide), if_neg (show ¬ w = 2 by rw [eh1]; decide), if_neg (show ¬ w = 3 by rw [eh1]; decide), if_neg (show ¬ w = 4 by rw [eh1]; decide), if_neg (show ¬ w = 5 by rw [eh1]; decide), if_neg (show ¬ w = 6 by rw [eh1]; decide), if_pos eh1], rfl⟩)
    | (q + 8), hq => exact absurd hq (by omega)
  · refine Wx_tableOut 106 dX11_count_1 (sw_out (by decide) h1) (by decide) ?_
    refine Wx_iconst (v := (-1)) dX11_count_106 (by decide) ?_
    exact Wx_ireturn dX11_count_107 rfl rfl (⟨by rw [r_count_30, if_neg (show ¬ w = 0 from fun q => h1 0 (by decide) (q.trans (by decide))), if_neg (show ¬ w = 1 from fun q => h1 1 (by decide) (q.trans (by decide))), if_neg (show ¬ w = 2 from fun q => h1 2 (by decide) (q.trans (by decide))), if_neg (show ¬ w = 3 from fun q => h1 3 (by decide) (q.trans (by decide))), if_neg (show ¬ w = 4 from fun q => h1 4 (by decide) (q.trans (by decide))), if_neg (show ¬ w = 5 from fun q => h1 5 (by decide) (q.trans (by decide))), if_neg (show ¬ w = 6 from fun q => h1 6 (by decide) (q.trans (by decide))), if_neg (show ¬ w = 7 from fun q => h1 7 (by decide) (q.trans (by decide)))], rfl⟩)
def r_rule_30 (σ : Hp) (k : Int32) (w : Int32) : Int32 := (if k < 0 then (-1) else (if (gI σ 30 8) ≤ k then (-1) else (if w < 0 then (-1) else (if w ≤ 11 then (if 3 ≤ w then (if ¬ w = 3 then (gA σ 37 ((((8 * k) + w) - 4) : Int32).toNatClampNeg) else (gA σ 38 (k : Int32).toNatClampNeg)) else (((((gA σ 36 (k : Int32).toNatClampNeg) : Int32) >>> ((w : Int32) &&& 31)) : Int32) &&& 1)) else (-1)))))
theorem w_rule_30 (d : Nat) (σ : Hp) (k : Int32) (w : Int32) (hR : Rf σ) (hC : gR σ 0 9 = some 30) (hb : (gI σ 30 8).toInt ≤ (60 : Nat)) : Cx yX11_rule cX11_rule 3 (some .int) (d) 122 122 [.ref 0, .int k, .int w] σ (fun o τ => o = .inl (some (.int (r_rule_30 σ k w))) ∧ τ = σ) := by
  refine Cx_of RX11 false (by decide) rfl (fun q => by cases q) (Nat.le_refl _) rfl (Nat.le_of_ble_eq_true rfl) ?_
  refine Wx_iload1 dX11_rule_0 ?_
  refine Wx_if_lt 25 dX11_rule_1 (by decide) (fun h1 => ?_) (fun h1 => ?_)
  ·
    refine Wx_iconst (v := (-1)) dX11_rule_25 (by decide) ?_
    exact Wx_ireturn dX11_rule_26 rfl rfl (⟨by rw [r_rule_30, if_pos h1], rfl⟩)
  ·
    refine Wx_iload1 dX11_rule_4 ?_
    refine Wx_aload0 dX11_rule_5 ?_
    refine Wx_getR 11 9 30 dX11_rule_6 f_X11_55 rfl (Nat.le_of_ble_eq_true rfl) rfl hC ?_
    refine Wx_getI 8 8 dX11_rule_9 f_X11_128 rfl (Nat.le_of_ble_eq_true rfl) rfl ?_
    refine Wx_icmp_ge 25 dX11_rule_12 (by decide) (fun h2 => ?_) (fun h2 => ?_)
    ·
      refine Wx_iconst (v := (-1)) dX11_rule_25 (by decide) ?_
      exact Wx_ireturn dX11_rule_26 rfl rfl (⟨by rw [r_rule_30, if_neg h1, if_pos h2], rfl⟩)
    ·
      refine Wx_iload2 dX11_rule_15 ?_
      refine Wx_if_lt 25 dX11_rule_16 (by decide) (fun h3 => ?_) (fun h3 => ?_)
      ·
        refine Wx_iconst (v := (-1)) dX11_rule_25 (by decide) ?_
        exact Wx_ireturn dX11_rule_26 rfl rfl (⟨by rw [r_rule_30, if_neg h1, if_neg h2, if_pos h3], rfl⟩)
      ·
        refine Wx_iload2 dX11_rule_19 ?_
        refine Wx_bipush (v := 11) dX11_rule_20 (by decide) ?_
        refine Wx_icmp_le 27 dX11_rule_22 (by decide) (fun h4 => ?_) (fun h4 => ?_)
        ·
          refine Wx_iload2 dX11_rule_27 ?_
          refine Wx_iconst (v := 3) dX11_rule_28 (by decide) ?_
          refine Wx_icmp_ge 46 dX11_rule_29 (by decide) (fun h5 => ?_) (fun h5 => ?_)
          ·
            refine Wx_iload2 dX11_rule_46 ?_
            refine Wx_iconst (v := 3) dX11_rule_47 (by decide) ?_
            refine Wx_icmp_ne 63 dX11_rule_48 (by decide) (fun h6 => ?_) (fun h6 => ?_)
            ·
              refine Wx_aload0 dX11_rule_63 ?_
              refine Wx_getR 11 9 30 dX11_rule_64 f_X11_55 rfl (Nat.le_of_ble_eq_true rfl) rfl hC ?_
              refine Wx_getR 8 6 37 dX11_rule_67 f_X11_151 rfl (Nat.le_of_ble_eq_true rfl) rfl (hR 30 6 37 (by decide)) ?_
              refine Wx_bipush (v := 8) dX11_rule_70 (by decide) ?_
              refine Wx_iload1 dX11_rule_72 ?_
              refine Wx_imul dX11_rule_73 ?_
              refine Wx_iload2 dX11_rule_74 ?_
              refine Wx_iadd dX11_rule_75 ?_
              refine Wx_iconst (v := 4) dX11_rule_76 (by decide) ?_
              refine Wx_isub dX11_rule_77 ?_
              refine Wx_iaload 480 dX11_rule_78 rfl (Nat.le_of_ble_eq_true rfl) (vin_abs 8 4 11 60 rfl h1 h2 hb (rule_w h5 h6) (rule_w2 h4) (by decide) (by decide) (by decide)) ?_
              exact Wx_ireturn dX11_rule_79 rfl rfl (⟨by rw [r_rule_30, if_neg h1, if_neg h2, if_neg h3, if_pos h4, if_pos h5, if_pos h6], rfl⟩)
            ·
              refine Wx_aload0 dX11_rule_51 ?_
              refine Wx_getR 11 9 30 dX11_rule_52 f_X11_55 rfl (Nat.le_of_ble_eq_true rfl) rfl hC ?_
              refine Wx_getR 8 7 38 dX11_rule_55 f_X11_148 rfl (Nat.le_of_ble_eq_true rfl) rfl (hR 30 7 38 (by decide)) ?_
              refine Wx_iload1 dX11_rule_58 ?_
              refine Wx_iaload 60 dX11_rule_59 rfl (Nat.le_of_ble_eq_true rfl) (vin1 h1 h2 hb) ?_
              refine Wx_goto 79 dX11_rule_60 (by decide) ?_
              exact Wx_ireturn dX11_rule_79 rfl rfl (⟨by rw [r_rule_30, if_neg h1, if_neg h2, if_neg h3, if_pos h4, if_pos h5, if_neg h6], rfl⟩)
          ·
            refine Wx_aload0 dX11_rule_32 ?_
            refine Wx_getR 11 9 30 dX11_rule_33 f_X11_55 rfl (Nat.le_of_ble_eq_true rfl) rfl hC ?_
            refine Wx_getR 8 5 36 dX11_rule_36 f_X11_144 rfl (Nat.le_of_ble_eq_true rfl) rfl (hR 30 5 36 (by decide)) ?_
            refine Wx_iload1 dX11_rule_39 ?_
            refine Wx_iaload 60 dX11_rule_40 rfl (Nat.le_of_ble_eq_true rfl) (vin1 h1 h2 hb) ?_
            refine Wx_iload2 dX11_rule_41 ?_
            refine Wx_ishr dX11_rule_42 ?_
            refine Wx_iconst (v := 1) dX11_rule_43 (by decide) ?_
            refine Wx_iand dX11_rule_44 ?_
            exact Wx_ireturn dX11_rule_45 rfl rfl (⟨by rw [r_rule_30, if_neg h1, if_neg h2, if_neg h3, if_pos h4, if_neg h5], rfl⟩)
        ·
          refine Wx_iconst (v := (-1)) dX11_rule_25 (by decide) ?_
          exact Wx_ireturn dX11_rule_26 rfl rfl (⟨by rw [r_rule_30, if_neg h1, if_neg h2, if_neg h3, if_neg h4], rfl⟩)
def r_program_30 (σ : Hp) (i : Int32) (w : Int32) : Int32 := (if i < 0 then (-1) else (if i < (gI σ 30 10) then (if w = 0 then (gA σ 31 (i : Int32).toNatClampNeg) else (if w = 1 then (gA σ 32 (i : Int32).toNatClampNeg) else (if w = 2 then (gA σ 33 (i : Int32).toNatClampNeg) else (if w = 3 then (gA σ 34 (i : Int32).toNatClampNeg) else (-1))))) else (-1)))
theorem w_program_30 (d : Nat) (σ : Hp) (i : Int32) (w : Int32) (hR : Rf σ) (hC : gR σ 0 9 = some 30) (hb : (gI σ 30 10).toInt ≤ (2000 : Nat)) : Cx yX11_program cX11_program 3 (some .int) (d) 122 122 [.ref 0, .int i, .int w] σ (fun o τ => o = .inl (some (.int (r_program_30 σ i w))) ∧ τ = σ) := by
  refine Cx_of RX11 false (by decide) rfl (fun q => by cases q) (Nat.le_refl _) rfl (Nat.le_of_ble_eq_true rfl) ?_
  refine Wx_iload1 dX11_program_0 ?_
  refine Wx_if_lt 15 dX11_program_1 (by decide) (fun h1 => ?_) (fun h1 => ?_)
  ·
    refine Wx_iconst (v := (-1)) dX11_program_15 (by decide) ?_
    exact Wx_ireturn dX11_program_16 rfl rfl (⟨by rw [r_program_30, if_pos h1], rfl⟩)
  ·
    refine Wx_iload1 dX11_program_4 ?_
    refine Wx_aload0 dX11_program_5 ?_
    refine Wx_getR 11 9 30 dX11_program_6 f_X11_55 rfl (Nat.le_of_ble_eq_true rfl) rfl hC ?_
    refine Wx_getI 8 10 dX11_program_9 f_X11_131 rfl (Nat.le_of_ble_eq_true rfl) rfl ?_
    refine Wx_icmp_lt 17 dX11_program_12 (by decide) (fun h2 => ?_) (fun h2 => ?_)
    ·
      refine Wx_iload2 dX11_program_17 ?_
      rcases sw_cases (w) 0 4 (by decide) (by decide) with ⟨kh3, hkh3, h3⟩ | h3
      · match kh3, hkh3 with
        | 0, _ =>
          have eh3 : w = 0 := h3.trans (by decide)
          refine Wx_tableIn 48 dX11_program_18 (by rw [eh3]; decide) (by rw [eh3]; decide) (by rw [eh3]; rfl) (by decide) ?_
          refine Wx_aload0 dX11_program_48 ?_
          refine Wx_getR 11 9 30 dX11_program_49 f_X11_55 rfl (Nat.le_of_ble_eq_true rfl) rfl hC ?_
          refine Wx_getR 8 0 31 dX11_program_52 f_X11_154 rfl (Nat.le_of_ble_eq_true rfl) rfl (hR 30 0 31 (by decide)) ?_
          refine Wx_iload1 dX11_program_55 ?_
          refine Wx_iaload 2000 dX11_program_56 rfl (Nat.le_of_ble_eq_true rfl) (vin2 h1 h2 (Int.le_trans hb (by decide))) ?_
          exact Wx_ireturn dX11_program_57 rfl rfl (⟨by rw [r_program_30, if_neg h1, if_pos h2, if_pos eh3], rfl⟩)
        | 1, _ =>
          have eh3 : w = 1 := h3.trans (by decide)
          refine Wx_tableIn 58 dX11_program_18 (by rw [eh3]; decide) (by rw [eh3]; decide) (by rw [eh3]; rfl) (by decide) ?_
          refine Wx_aload0 dX11_program_58 ?_
          refine Wx_getR 11 9 30 dX11_program_59 f_X11_55 rfl (Nat.le_of_ble_eq_true rfl) rfl hC ?_
          refine Wx_getR 8 1 32 dX11_program_62 f_X11_157 rfl (Nat.le_of_ble_eq_true rfl) rfl (hR 30 1 32 (by decide)) ?_
          refine Wx_iload1 dX11_program_65 ?_
          refine Wx_iaload 2000 dX11_program_66 rfl (Nat.le_of_ble_eq_true rfl) (vin2 h1 h2 (Int.le_trans hb (by decide))) ?_
          exact Wx_ireturn dX11_program_67 rfl rfl (⟨by rw [r_program_30, if_neg h1, if_pos h2, if_neg (show ¬ w = 0 by rw [eh3]; decide), if_pos eh3], rfl⟩)
        | 2, _ =>
          have eh3 : w = 2 := h3.trans (by decide)
          refine Wx_tableIn 68 dX11_program_18 (by rw [eh3]; decide) (by rw [eh3]; decide) (by rw [eh3]; rfl) (by decide) ?_
          refine Wx_aload0 dX11_program_68 ?_
          refine Wx_getR 11 9 30 dX11_program_69 f_X11_55 rfl (Nat.le_of_ble_eq_true rfl) rfl hC ?_
          refine Wx_getR 8 2 33 dX11_program_72 f_X11_160 rfl (Nat.le_of_ble_eq_true rfl) rfl (hR 30 2 33 (by decide)) ?_
          refine Wx_iload1 dX11_program_75 ?_
          refine Wx_iaload 2000 dX11_program_76 rfl (Nat.le_of_ble_eq_true rfl) (vin2 h1 h2 (Int.le_trans hb (by decide))) ?_
          exact Wx_ireturn dX11_program_77 rfl rfl (⟨by rw [r_program_30, if_neg h1, if_pos h2, if_neg (show ¬ w = 0 by rw [eh3]; decide), if_neg (show ¬ w = 1 by rw [eh3]; decide), if_pos eh3], rfl⟩)
        | 3, _ =>
          have eh3 : w = 3 := h3.trans (by decide)
          refine Wx_tableIn 78 dX11_program_18 (by rw [eh3]; decide) (by rw [eh3]; decide) (by rw [eh3]; rfl) (by decide) ?_
          refine Wx_aload0 dX11_program_78 ?_
          refine Wx_getR 11 9 30 dX11_program_79 f_X11_55 rfl (Nat.le_of_ble_eq_true rfl) rfl hC ?_
          refine Wx_getR 8 3 34 dX11_program_82 f_X11_163 rfl (Nat.le_of_ble_eq_true rfl) rfl (hR 30 3 34 (by decide)) ?_
          refine Wx_iload1 dX11_program_85 ?_
          refine Wx_iaload 2003 dX11_program_86 rfl (Nat.le_of_ble_eq_true rfl) (vin2 h1 h2 (Int.le_trans hb (by decide))) ?_
          exact Wx_ireturn dX11_program_87 rfl rfl (⟨by rw [r_program_30, if_neg h1, if_pos h2, if_neg (show ¬ w = 0 by rw [eh3]; decide), if_neg (show ¬ w = 1 by rw [eh3]; decide), if_neg (show ¬ w = 2 by rw [eh3]; decide), if_pos eh3], rfl⟩)
        | (q + 4), hq => exact absurd hq (by omega)
      · refine Wx_tableOut 88 dX11_program_18 (sw_out (by decide) h3) (by decide) ?_
        refine Wx_iconst (v := (-1)) dX11_program_88 (by decide) ?_
        exact Wx_ireturn dX11_program_89 rfl rfl (⟨by rw [r_program_30, if_neg h1, if_pos h2, if_neg (show ¬ w = 0 from fun q => h3 0 (by decide) (q.trans (by decide))), if_neg (show ¬ w = 1 from fun q => h3 1 (by decide) (q.trans (by decide))), if_neg (show ¬ w = 2 from fun q => h3 2 (by decide) (q.trans (by decide))), if_neg (show ¬ w = 3 from fun q => h3 3 (by decide) (q.trans (by decide)))], rfl⟩)
    ·
      refine Wx_iconst (v := (-1)) dX11_program_15 (by decide) ?_
      exact Wx_ireturn dX11_program_16 rfl rfl (⟨by rw [r_program_30, if_neg h1, if_neg h2], rfl⟩)
def r_set_30 (σ : Hp) (k : Int32) (w : Int32) : Int32 := (if k < 0 then 0 else (if (gI σ 30 11) ≤ k then 0 else (if w < 0 then 0 else (if w ≤ 7 then (gA σ 35 (((8 * k) + w) : Int32).toNatClampNeg) else 0))))
theorem w_set_30 (d : Nat) (σ : Hp) (k : Int32) (w : Int32) (hR : Rf σ) (hC : gR σ 0 9 = some 30) (hb : (gI σ 30 11).toInt ≤ (128 : Nat)) : Cx yX11_set cX11_set 3 (some .int) (d) 122 122 [.ref 0, .int k, .int w] σ (fun o τ => o = .inl (some (.int (r_set_30 σ k w))) ∧ τ = σ) := by
  refine Cx_of RX11 false (by decide) rfl (fun q => by cases q) (Nat.le_refl _) rfl (Nat.le_of_ble_eq_true rfl) ?_
  refine Wx_iload1 dX11_set_0 ?_
  refine Wx_if_lt 25 dX11_set_1 (by decide) (fun h1 => ?_) (fun h1 => ?_)
  ·
    refine Wx_iconst (v := 0) dX11_set_25 (by decide) ?_
    exact Wx_ireturn dX11_set_26 rfl rfl (⟨by rw [r_set_30, if_pos h1], rfl⟩)
  ·
    refine Wx_iload1 dX11_set_4 ?_
    refine Wx_aload0 dX11_set_5 ?_
    refine Wx_getR 11 9 30 dX11_set_6 f_X11_55 rfl (Nat.le_of_ble_eq_true rfl) rfl hC ?_
    refine Wx_getI 8 11 dX11_set_9 f_X11_134 rfl (Nat.le_of_ble_eq_true rfl) rfl ?_
    refine Wx_icmp_ge 25 dX11_set_12 (by decide) (fun h2 => ?_) (fun h2 => ?_)
    ·
      refine Wx_iconst (v := 0) dX11_set_25 (by decide) ?_
      exact Wx_ireturn dX11_set_26 rfl rfl (⟨by rw [r_set_30, if_neg h1, if_pos h2], rfl⟩)
    ·
      refine Wx_iload2 dX11_set_15 ?_
      refine Wx_if_lt 25 dX11_set_16 (by decide) (fun h3 => ?_) (fun h3 => ?_)
      ·
        refine Wx_iconst (v := 0) dX11_set_25 (by decide) ?_
        exact Wx_ireturn dX11_set_26 rfl rfl (⟨by rw [r_set_30, if_neg h1, if_neg h2, if_pos h3], rfl⟩)
      ·
        refine Wx_iload2 dX11_set_19 ?_
        refine Wx_bipush (v := 7) dX11_set_20 (by decide) ?_
        refine Wx_icmp_le 27 dX11_set_22 (by decide) (fun h4 => ?_) (fun h4 => ?_)
        ·
          refine Wx_aload0 dX11_set_27 ?_
          refine Wx_getR 11 9 30 dX11_set_28 f_X11_55 rfl (Nat.le_of_ble_eq_true rfl) rfl hC ?_
          refine Wx_getR 8 4 35 dX11_set_31 f_X11_166 rfl (Nat.le_of_ble_eq_true rfl) rfl (hR 30 4 35 (by decide)) ?_
          refine Wx_bipush (v := 8) dX11_set_34 (by decide) ?_
          refine Wx_iload1 dX11_set_36 ?_
          refine Wx_imul dX11_set_37 ?_
          refine Wx_iload2 dX11_set_38 ?_
          refine Wx_iadd dX11_set_39 ?_
          refine Wx_iaload 1024 dX11_set_40 rfl (Nat.le_of_ble_eq_true rfl) (vin_ab 8 7 128 rfl h1 h2 hb h3 (set_w h4) (by decide) (by decide) (by decide)) ?_
          exact Wx_ireturn dX11_set_41 rfl rfl (⟨by rw [r_set_30, if_neg h1, if_neg h2, if_neg h3, if_pos h4], rfl⟩)
        ·
          refine Wx_iconst (v := 0) dX11_set_25 (by decide) ?_
          exact Wx_ireturn dX11_set_26 rfl rfl (⟨by rw [r_set_30, if_neg h1, if_neg h2, if_neg h3, if_neg h4], rfl⟩)
def r_image_30 (σ : Hp) (i : Int32) : Int32 := (if i < 0 then (-1) else (if i < (gI σ 30 12) then (((gA σ 45 (i : Int32).toNatClampNeg) : Int32) &&& 255) else (-1)))
theorem w_image_30 (d : Nat) (σ : Hp) (i : Int32) (hR : Rf σ) (hC : gR σ 0 9 = some 30) (hb : (gI σ 30 12).toInt ≤ (61440 : Nat)) : Cx yX11_image cX11_image 2 (some .int) (d) 122 122 [.ref 0, .int i] σ (fun o τ => o = .inl (some (.int (r_image_30 σ i))) ∧ τ = σ) := by
  refine Cx_of RX11 false (by decide) rfl (fun q => by cases q) (Nat.le_refl _) rfl (Nat.le_of_ble_eq_true rfl) ?_
  refine Wx_iload1 dX11_image_0 ?_
  refine Wx_if_lt 15 dX11_image_1 (by decide) (fun h1 => ?_) (fun h1 => ?_)
  ·
    refine Wx_iconst (v := (-1)) dX11_image_15 (by decide) ?_
    exact Wx_ireturn dX11_image_16 rfl rfl (⟨by rw [r_image_30, if_pos h1], rfl⟩)
  ·
    refine Wx_iload1 dX11_image_4 ?_
    refine Wx_aload0 dX11_image_5 ?_
    refine Wx_getR 11 9 30 dX11_image_6 f_X11_55 rfl (Nat.le_of_ble_eq_true rfl) rfl hC ?_
    refine Wx_getI 8 12 dX11_image_9 f_X11_137 rfl (Nat.le_of_ble_eq_true rfl) rfl ?_
    refine Wx_icmp_lt 17 dX11_image_12 (by decide) (fun h2 => ?_) (fun h2 => ?_)
    ·
      refine Wx_aload0 dX11_image_17 ?_
      refine Wx_getR 11 12 44 dX11_image_18 f_X11_76 rfl (Nat.le_of_ble_eq_true rfl) rfl (hR 0 12 44 (by decide)) ?_
      refine Wx_getR 1 0 45 dX11_image_21 f_X11_169 rfl (Nat.le_of_ble_eq_true rfl) rfl (hR 44 0 45 (by decide)) ?_
      refine Wx_iload1 dX11_image_24 ?_
      refine Wx_baload 61440 dX11_image_25 rfl (Nat.le_of_ble_eq_true rfl) (vin2 h1 h2 hb) ?_
      refine Wx_sipush (v := 255) dX11_image_26 (by decide) ?_
      refine Wx_iand dX11_image_29 ?_
      exact Wx_ireturn dX11_image_30 rfl rfl (⟨by rw [r_image_30, if_neg h1, if_pos h2], rfl⟩)
    ·
      refine Wx_iconst (v := (-1)) dX11_image_15 (by decide) ?_
      exact Wx_ireturn dX11_image_16 rfl rfl (⟨by rw [r_image_30, if_neg h1, if_neg h2], rfl⟩)
theorem dX14_count_0 : decode cX14_count 0 = .ok (.iload_n 1, 1) := by decide +kernel
theorem dX14_count_1 : decode cX14_count 1 = .ok (.tableswitch 157 0 7 #[47, 66, 85, 104, 123, 142, 147, 152], 47) := by decide +kernel
theorem dX14_count_48 : decode cX14_count 48 = .ok (.aload_n 0, 1) := by decide +kernel
theorem dX14_count_49 : decode cX14_count 49 = .ok (.getfield 535, 3) := by decide +kernel
theorem dX14_count_52 : decode cX14_count 52 = .ok (.ifCond .eq 13, 3) := by decide +kernel
theorem dX14_count_55 : decode cX14_count 55 = .ok (.aload_n 0, 1) := by decide +kernel
theorem dX14_count_56 : decode cX14_count 56 = .ok (.getfield 89, 3) := by decide +kernel
theorem dX14_count_59 : decode cX14_count 59 = .ok (.getfield 533, 3) := by decide +kernel
theorem dX14_count_62 : decode cX14_count 62 = .ok (.goto 4, 3) := by decide +kernel
theorem dX14_count_65 : decode cX14_count 65 = .ok (.iconst 0, 1) := by decide +kernel
theorem dX14_count_66 : decode cX14_count 66 = .ok (.ireturn, 1) := by decide +kernel
theorem dX14_count_67 : decode cX14_count 67 = .ok (.aload_n 0, 1) := by decide +kernel
theorem dX14_count_68 : decode cX14_count 68 = .ok (.getfield 535, 3) := by decide +kernel
theorem dX14_count_71 : decode cX14_count 71 = .ok (.ifCond .eq 13, 3) := by decide +kernel
theorem dX14_count_74 : decode cX14_count 74 = .ok (.aload_n 0, 1) := by decide +kernel
theorem dX14_count_75 : decode cX14_count 75 = .ok (.getfield 89, 3) := by decide +kernel
theorem dX14_count_78 : decode cX14_count 78 = .ok (.getfield 302, 3) := by decide +kernel
theorem dX14_count_81 : decode cX14_count 81 = .ok (.goto 4, 3) := by decide +kernel
theorem dX14_count_84 : decode cX14_count 84 = .ok (.iconst 0, 1) := by decide +kernel
theorem dX14_count_85 : decode cX14_count 85 = .ok (.ireturn, 1) := by decide +kernel
theorem dX14_count_86 : decode cX14_count 86 = .ok (.aload_n 0, 1) := by decide +kernel
theorem dX14_count_87 : decode cX14_count 87 = .ok (.getfield 535, 3) := by decide +kernel
theorem dX14_count_90 : decode cX14_count 90 = .ok (.ifCond .eq 13, 3) := by decide +kernel
theorem dX14_count_93 : decode cX14_count 93 = .ok (.aload_n 0, 1) := by decide +kernel
theorem dX14_count_94 : decode cX14_count 94 = .ok (.getfield 89, 3) := by decide +kernel
theorem dX14_count_97 : decode cX14_count 97 = .ok (.getfield 380, 3) := by decide +kernel
theorem dX14_count_100 : decode cX14_count 100 = .ok (.goto 4, 3) := by decide +kernel
theorem dX14_count_103 : decode cX14_count 103 = .ok (.iconst 0, 1) := by decide +kernel
theorem dX14_count_104 : decode cX14_count 104 = .ok (.ireturn, 1) := by decide +kernel
theorem dX14_count_105 : decode cX14_count 105 = .ok (.aload_n 0, 1) := by decide +kernel
theorem dX14_count_106 : decode cX14_count 106 = .ok (.getfield 535, 3) := by decide +kernel
theorem dX14_count_109 : decode cX14_count 109 = .ok (.ifCond .eq 13, 3) := by decide +kernel
theorem dX14_count_112 : decode cX14_count 112 = .ok (.aload_n 0, 1) := by decide +kernel
theorem dX14_count_113 : decode cX14_count 113 = .ok (.getfield 89, 3) := by decide +kernel
theorem dX14_count_116 : decode cX14_count 116 = .ok (.getfield 507, 3) := by decide +kernel
theorem dX14_count_119 : decode cX14_count 119 = .ok (.goto 4, 3) := by decide +kernel
theorem dX14_count_122 : decode cX14_count 122 = .ok (.iconst 0, 1) := by decide +kernel
theorem dX14_count_123 : decode cX14_count 123 = .ok (.ireturn, 1) := by decide +kernel
theorem dX14_count_124 : decode cX14_count 124 = .ok (.aload_n 0, 1) := by decide +kernel
theorem dX14_count_125 : decode cX14_count 125 = .ok (.getfield 535, 3) := by decide +kernel
theorem dX14_count_128 : decode cX14_count 128 = .ok (.ifCond .eq 13, 3) := by decide +kernel
theorem dX14_count_131 : decode cX14_count 131 = .ok (.aload_n 0, 1) := by decide +kernel
theorem dX14_count_132 : decode cX14_count 132 = .ok (.getfield 89, 3) := by decide +kernel
theorem dX14_count_135 : decode cX14_count 135 = .ok (.getfield 534, 3) := by decide +kernel
theorem dX14_count_138 : decode cX14_count 138 = .ok (.goto 4, 3) := by decide +kernel
theorem dX14_count_141 : decode cX14_count 141 = .ok (.iconst 0, 1) := by decide +kernel
theorem dX14_count_142 : decode cX14_count 142 = .ok (.ireturn, 1) := by decide +kernel
theorem dX14_count_143 : decode cX14_count 143 = .ok (.aload_n 0, 1) := by decide +kernel
theorem dX14_count_144 : decode cX14_count 144 = .ok (.getfield 161, 3) := by decide +kernel
theorem dX14_count_147 : decode cX14_count 147 = .ok (.ireturn, 1) := by decide +kernel
theorem dX14_count_148 : decode cX14_count 148 = .ok (.aload_n 0, 1) := by decide +kernel
theorem dX14_count_149 : decode cX14_count 149 = .ok (.getfield 158, 3) := by decide +kernel
theorem dX14_count_152 : decode cX14_count 152 = .ok (.ireturn, 1) := by decide +kernel
theorem dX14_count_153 : decode cX14_count 153 = .ok (.aload_n 0, 1) := by decide +kernel
theorem dX14_count_154 : decode cX14_count 154 = .ok (.getfield 538, 3) := by decide +kernel
theorem dX14_count_157 : decode cX14_count 157 = .ok (.ireturn, 1) := by decide +kernel
theorem dX14_count_158 : decode cX14_count 158 = .ok (.iconst (-1), 1) := by decide +kernel
theorem dX14_count_159 : decode cX14_count 159 = .ok (.ireturn, 1) := by decide +kernel
def r_countM_87 (σ : Hp) (w : Int32) : Int32 := (if w = 0 then (if (gI σ 66 35) = 0 then 0 else (gI σ 87 0)) else (if w = 1 then (if (gI σ 66 35) = 0 then 0 else (gI σ 87 2)) else (if w = 2 then (if (gI σ 66 35) = 0 then 0 else (gI σ 87 3)) else (if w = 3 then (if (gI σ 66 35) = 0 then 0 else (gI σ 87 4)) else (if w = 4 then (if (gI σ 66 35) = 0 then 0 else (gI σ 87 1)) else (if w = 5 then (gI σ 66 4) else (if w = 6 then (gI σ 66 2) else (if w = 7 then (gI σ 66 50) else (-1)))))))))
theorem w_countM_87 (d : Nat) (σ : Hp) (w : Int32) (hC : gR σ 66 34 = some 87) : Cx yX14_count cX14_count 2 (some .int) (d) 122 122 [.ref 66, .int w] σ (fun o τ => o = .inl (some (.int (r_countM_87 σ w))) ∧ τ = σ) := by
  refine Cx_of RX14 false (by decide) rfl (fun q => by cases q) (Nat.le_refl _) rfl (Nat.le_of_ble_eq_true rfl) ?_
  refine Wx_iload1 dX14_count_0 ?_
  rcases sw_cases (w) 0 8 (by decide) (by decide) with ⟨kh1, hkh1, h1⟩ | h1
  · match kh1, hkh1 with
    | 0, _ =>
      have eh1 : w = 0 := h1.trans (by decide)
      refine Wx_tableIn 48 dX14_count_1 (by rw [eh1]; decide) (by rw [eh1]; decide) (by rw [eh1]; rfl) (by decide) ?_
      refine Wx_aload0 dX14_count_48 ?_
      refine Wx_getI 14 35 dX14_count_49 f_X14_535 rfl (Nat.le_of_ble_eq_true rfl) rfl ?_
      refine Wx_if_eq 65 dX14_count_52 (by decide) (fun h2 => ?_) (fun h2 => ?_)
      ·
        refine Wx_iconst (v := 0) dX14_count_65 (by decide) ?_
        exact Wx_ireturn dX14_count_66 rfl rfl (⟨by rw [r_countM_87, if_pos eh1, if_pos h2], rfl⟩)
      ·
        refine Wx_aload0 dX14_count_55 ?_
        refine Wx_getR 14 34 87 dX14_count_56 f_X14_89 rfl (Nat.le_of_ble_eq_true rfl) rfl hC ?_
        refine Wx_getI 13 0 dX14_count_59 f_X14_533 rfl (Nat.le_of_ble_eq_true rfl) rfl ?_
        refine Wx_goto 66 dX14_count_62 (by decide) ?_
        exact Wx_ireturn dX14_count_66 rfl rfl (⟨by rw [r_countM_87, if_pos eh1, if_neg h2], rfl⟩)
    | 1, _ =>
      have eh1 : w = 1 := h1.trans (by decide)
      refine Wx_tableIn 67 dX14_count_1 (by rw [eh1]; decide) (by rw [eh1]; decide) (by rw [eh1]; rfl) (by decide) ?_
      refine Wx_aload0 dX14_count_67 ?_
      refine Wx_getI 14 35 dX14_count_68 f_X14_535 rfl (Nat.le_of_ble_eq_true rfl) rfl ?_
      refine Wx_if_eq 84 dX14_count_71 (by decide) (fun h3 => ?_) (fun h3 => ?_)
      ·
        refine Wx_iconst (v := 0) dX14_count_84 (by decide) ?_
        exact Wx_ireturn dX14_count_85 rfl rfl (⟨by rw [r_countM_87, if_neg (show ¬ w = 0 by rw [eh1]; decide), if_pos eh1, if_pos h3], rfl⟩)
      ·
        refine Wx_aload0 dX14_count_74 ?_
        refine Wx_getR 14 34 87 dX14_count_75 f_X14_89 rfl (Nat.le_of_ble_eq_true rfl) rfl hC ?_
        refine Wx_getI 13 2 dX14_count_78 f_X14_302 rfl (Nat.le_of_ble_eq_true rfl) rfl ?_
        refine Wx_goto 85 dX14_count_81 (by decide) ?_
        exact Wx_ireturn dX14_count_85 rfl rfl (⟨by rw [r_countM_87, if_neg (show ¬ w = 0 by rw [eh1]; decide), if_pos eh1, if_neg h3], rfl⟩)
    | 2, _ =>
      have eh1 : w = 2 := h1.trans (by decide)
      refine Wx_tableIn 86 dX14_count_1 (by rw [eh1]; decide) (by rw [eh1]; decide) (by rw [eh1]; rfl) (by decide) ?_
      refine Wx_aload0 dX14_count_86 ?_
      refine Wx_getI 14 35 dX14_count_87 f_X14_535 rfl (Nat.le_of_ble_eq_true rfl) rfl ?_
      refine Wx_if_eq 103 dX14_count_90 (by decide) (fun h4 => ?_) (fun h4 => ?_)
      ·
        refine Wx_iconst (v := 0) dX14_count_103 (by decide) ?_
        exact Wx_ireturn dX14_count_104 rfl rfl (⟨by rw [r_countM_87, if_neg (show ¬ w = 0 by rw [eh1]; decide), if_neg (show ¬ w = 1 by rw [eh1]; decide), if_pos eh1, if_pos h4], rfl⟩)
      ·
        refine Wx_aload0 dX14_count_93 ?_
        refine Wx_getR 14 34 87 dX14_count_94 f_X14_89 rfl (Nat.le_of_ble_eq_true rfl) rfl hC ?_
        refine Wx_getI 13 3 dX14_count_97 f_X14_380 rfl (Nat.le_of_ble_eq_true rfl) rfl ?_
        refine Wx_goto 104 dX14_count_100 (by decide) ?_
        exact Wx_ireturn dX14_count_104 rfl rfl (⟨by rw [r_countM_87, if_neg (show ¬ w = 0 by rw [eh1]; decide), if_neg (show ¬ w = 1 by rw [eh1]; decide), if_pos eh1, if_neg h4], rfl⟩)
    | 3, _ =>
      have eh1 : w = 3 := h1.trans (by decide)
      refine Wx_tableIn 105 dX14_count_1 (by rw [eh1]; decide) (by rw [eh1]; decide) (by rw [eh1]; rfl) (by decide) ?_
      refine Wx_aload0 dX14_count_105 ?_
      refine Wx_getI 14 35 dX14_count_106 f_X14_535 rfl (Nat.le_of_ble_eq_true rfl) rfl ?_
      refine Wx_if_eq 122 dX14_count_109 (by decide) (fun h5 => ?_) (fun h5 => ?_)
      ·
        refine Wx_iconst (v := 0) dX14_count_122 (by decide) ?_
        exact Wx_ireturn dX14_count_123 rfl rfl (⟨by rw [r_countM_87, if_neg (show ¬ w = 0 by rw [eh1]; decide), if_neg (show ¬ w = 1 by rw [eh1]; decide), if_neg (show ¬ w = 2 by rw [eh1]; decide), if_pos eh1, if_pos h5], rfl⟩)
      ·
        refine Wx_aload0 dX14_count_112 ?_
        refine Wx_getR 14 34 87 dX14_count_113 f_X14_89 rfl (Nat.le_of_ble_eq_true rfl) rfl hC ?_
        refine Wx_getI 13 4 dX14_count_116 f_X14_507 rfl (Nat.le_of_ble_eq_true rfl) rfl ?_
        refine Wx_goto 123 dX14_count_119 (by decide) ?_
        exact Wx_ireturn dX14_count_123 rfl rfl (⟨by rw [r_countM_87, if_neg (show ¬ w = 0 by rw [eh1]; decide), if_neg (show ¬ w = 1 by rw [eh1]; decide), if_neg (show ¬ w = 2 by rw [eh1]; decide), if_pos eh1, if_neg h5], rfl⟩)
    | 4, _ =>
      have eh1 : w = 4 := h1.trans (by decide)
      refine Wx_tableIn 124 dX14_count_1 (by rw [eh1]; decide) (by rw [eh1]; decide) (by rw [eh1]; rfl) (by decide) ?_
      refine Wx_aload0 dX14_count_124 ?_
      refine Wx_getI 14 35 dX14_count_125 f_X14_535 rfl (Nat.le_of_ble_eq_true rfl) rfl ?_
      refine Wx_if_eq 141 dX14_count_128 (by decide) (fun h6 => ?_) (fun h6 => ?_)
      ·
        refine Wx_iconst (v := 0) dX14_count_141 (by decide) ?_
        exact Wx_ireturn dX14_count_142 rfl rfl (⟨by rw [r_countM_87, if_neg (show ¬ w = 0 by rw [eh1]; decide), if_neg (show ¬ w = 1 by rw [eh1]; decide), if_neg (show ¬ w = 2 by rw [eh1]; decide), if_neg (show ¬ w = 3 by rw [eh1]; decide), if_pos eh1, if_pos h6], rfl⟩)
      ·
        refine Wx_aload0 dX14_count_131 ?_
        refine Wx_getR 14 34 87 dX14_count_132 f_X14_89 rfl (Nat.le_of_ble_eq_true rfl) rfl hC ?_
        refine Wx_getI 13 1 dX14_count_135 f_X14_534 rfl (Nat.le_of_ble_eq_true rfl) rfl ?_
        refine Wx_goto 142 dX14_count_138 (by decide) ?_
        exact Wx_ireturn dX14_count_142 rfl rfl (⟨by rw [r_countM_87, if_neg (show ¬ w = 0 by rw [eh1]; decide), if_neg (show ¬ w = 1 by rw [eh1]; decide), if_neg (show ¬ w = 2 by rw [eh1]; decide), if_neg (show ¬ w = 3 by rw [eh1]; decide), if_pos eh1, if_neg h6], rfl⟩)
    | 5, _ =>
      have eh1 : w = 5 := h1.trans (by decide)
      refine Wx_tableIn 143 dX14_count_1 (by rw [eh1]; decide) (by rw [eh1]; decide) (by rw [eh1]; rfl) (by decide) ?_
      refine Wx_aload0 dX14_count_143 ?_
      refine Wx_getI 14 4 dX14_count_144 f_X14_161 rfl (Nat.le_of_ble_eq_true rfl) rfl ?_
      exact Wx_ireturn dX14_count_147 rfl rfl (⟨by rw [r_countM_87, if_neg (show ¬ w = 0 by rw [eh1]; decide), if_neg (show ¬ w = 1 by rw [eh1]; decide), if_neg (show ¬ w = 2 by rw [eh1]; decide), if_neg (show ¬ w = 3 by rw [eh1]; decide), if_neg (show ¬ w = 4 by rw [eh1]; decide), if_pos eh1], rfl⟩)
    | 6, _ =>
      have eh1 : w = 6 := h1.trans (by decide)
      refine Wx_tableIn 148 dX14_count_1 (by rw [eh1]; decide) (by rw [eh1]; decide) (by rw [eh1]; rfl) (by decide) ?_
      refine Wx_aload0 dX14_count_148 ?_
      refine Wx_getI 14 2 dX14_count_149 f_X14_158 rfl (Nat.le_of_ble_eq_true rfl) rfl ?_
      exact Wx_ireturn dX14_count_152 rfl rfl (⟨by rw [r_countM_87, if_neg (show ¬ w = 0 by rw [eh1]; decide), if_neg (show ¬ w = 1 by rw [eh1]; decide), if_neg (show ¬ w = 2 by rw [eh1]; decide), if_neg (show ¬ w = 3 by rw [eh1]; decide), if_neg (show ¬ w = 4 by rw [eh1]; decide), if_neg (show ¬ w = 5 by rw [eh1]; decide), if_pos eh1], rfl⟩)
    | 7, _ =>
      have eh1 : w = 7 := h1.trans (by decide)
      refine Wx_tableIn 153 dX14_count_1 (by rw [eh1]; decide) (by rw [eh1]; decide) (by rw [eh1]; rfl) (by decide) ?_
      refine Wx_aload0 dX14_count_153 ?_
      refine Wx_getI 14 50 dX14_count_154 f_X14_538 rfl (Nat.le_of_ble_eq_true rfl) rfl ?_
      exact Wx_ireturn dX14_count_157 rfl rfl (⟨by rw [r_countM_87, if_neg (show ¬ w = 0 by rw [eh1]; decide), if_neg (show ¬ w = 1 by rw [eh1]; decide), if_neg (show ¬ w = 2 by rw [eh1]; decide), if_neg (show ¬ w = 3 by rw [eh1]; decide), if_neg (show ¬ w = 4 by rw [eh1]; decide), if_neg (show ¬ w = 5 by rw [eh1]; decide), if_neg (show ¬ w = 6 by rw [eh1]; decide), if_pos eh1], rfl⟩)
    | (q + 8), hq => exact absurd hq (by omega)
  · refine Wx_tableOut 158 dX14_count_1 (sw_out (by decide) h1) (by decide) ?_
    refine Wx_iconst (v := (-1)) dX14_count_158 (by decide) ?_
    exact Wx_ireturn dX14_count_159 rfl rfl (⟨by rw [r_countM_87, if_neg (show ¬ w = 0 from fun q => h1 0 (by decide) (q.trans (by decide))), if_neg (show ¬ w = 1 from fun q => h1 1 (by decide) (q.trans (by decide))), if_neg (show ¬ w = 2 from fun q => h1 2 (by decide) (q.trans (by decide))), if_neg (show ¬ w = 3 from fun q => h1 3 (by decide) (q.trans (by decide))), if_neg (show ¬ w = 4 from fun q => h1 4 (by decide) (q.trans (by decide))), if_neg (show ¬ w = 5 from fun q => h1 5 (by decide) (q.trans (by decide))), if_neg (show ¬ w = 6 from fun q => h1 6 (by decide) (q.trans (by decide))), if_neg (show ¬ w = 7 from fun q => h1 7 (by decide) (q.trans (by decide)))], rfl⟩)
theorem dX14_rule_0 : decode cX14_rule 0 = .ok (.aload_n 0, 1) := by decide +kernel
theorem dX14_rule_1 : decode cX14_rule 1 = .ok (.getfield 535, 3) := by decide +kernel
theorem dX14_rule_4 : decode cX14_rule 4 = .ok (.ifCond .eq 28, 3) := by decide +kernel
theorem dX14_rule_7 : decode cX14_rule 7 = .ok (.iload_n 1, 1) := by decide +kernel
theorem dX14_rule_8 : decode cX14_rule 8 = .ok (.ifCond .lt 24, 3) := by decide +kernel
theorem dX14_rule_11 : decode cX14_rule 11 = .ok (.iload_n 1, 1) := by decide +kernel
theorem dX14_rule_12 : decode cX14_rule 12 = .ok (.aload_n 0, 1) := by decide +kernel
theorem dX14_rule_13 : decode cX14_rule 13 = .ok (.getfield 89, 3) := by decide +kernel
theorem dX14_rule_16 : decode cX14_rule 16 = .ok (.getfield 533, 3) := by decide +kernel
theorem dX14_rule_19 : decode cX14_rule 19 = .ok (.if_icmp .ge 13, 3) := by decide +kernel
theorem dX14_rule_22 : decode cX14_rule 22 = .ok (.iload_n 2, 1) := by decide +kernel
theorem dX14_rule_23 : decode cX14_rule 23 = .ok (.ifCond .lt 9, 3) := by decide +kernel
theorem dX14_rule_26 : decode cX14_rule 26 = .ok (.iload_n 2, 1) := by decide +kernel
theorem dX14_rule_27 : decode cX14_rule 27 = .ok (.bipush 11, 2) := by decide +kernel
theorem dX14_rule_29 : decode cX14_rule 29 = .ok (.if_icmp .le 5, 3) := by decide +kernel
theorem dX14_rule_32 : decode cX14_rule 32 = .ok (.iconst (-1), 1) := by decide +kernel
theorem dX14_rule_33 : decode cX14_rule 33 = .ok (.ireturn, 1) := by decide +kernel
theorem dX14_rule_34 : decode cX14_rule 34 = .ok (.aload_n 0, 1) := by decide +kernel
theorem dX14_rule_35 : decode cX14_rule 35 = .ok (.getfield 89, 3) := by decide +kernel
theorem dX14_rule_38 : decode cX14_rule 38 = .ok (.getfield 369, 3) := by decide +kernel
theorem dX14_rule_41 : decode cX14_rule 41 = .ok (.bipush 12, 2) := by decide +kernel
theorem dX14_rule_43 : decode cX14_rule 43 = .ok (.iload_n 1, 1) := by decide +kernel
theorem dX14_rule_44 : decode cX14_rule 44 = .ok (.imul, 1) := by decide +kernel
theorem dX14_rule_45 : decode cX14_rule 45 = .ok (.iload_n 2, 1) := by decide +kernel
theorem dX14_rule_46 : decode cX14_rule 46 = .ok (.iadd, 1) := by decide +kernel
theorem dX14_rule_47 : decode cX14_rule 47 = .ok (.iaload, 1) := by decide +kernel
theorem dX14_rule_48 : decode cX14_rule 48 = .ok (.ireturn, 1) := by decide +kernel
def r_ruleM_87 (σ : Hp) (k : Int32) (w : Int32) : Int32 := (if (gI σ 66 35) = 0 then (-1) else (if k < 0 then (-1) else (if (gI σ 87 0) ≤ k then (-1) else (if w < 0 then (-1) else (if w ≤ 11 then (gA σ 94 (((12 * k) + w) : Int32).toNatClampNeg) else (-1))))))
theorem w_ruleM_87 (d : Nat) (σ : Hp) (k : Int32) (w : Int32) (hR : Rf σ) (hC : gR σ 66 34 = some 87) (hb : (gI σ 87 0).toInt ≤ (60 : Nat)) : Cx yX14_rule cX14_rule 3 (some .int) (d) 122 122 [.ref 66, .int k, .int w] σ (fun o τ => o = .inl (some (.int (r_ruleM_87 σ k w))) ∧ τ = σ) := by
  refine Cx_of RX14 false (by decide) rfl (fun q => by cases q) (Nat.le_refl _) rfl (Nat.le_of_ble_eq_true rfl) ?_
  refine Wx_aload0 dX14_rule_0 ?_
  refine Wx_getI 14 35 dX14_rule_1 f_X14_535 rfl (Nat.le_of_ble_eq_true rfl) rfl ?_
  refine Wx_if_eq 32 dX14_rule_4 (by decide) (fun h1 => ?_) (fun h1 => ?_)
  ·
    refine Wx_iconst (v := (-1)) dX14_rule_32 (by decide) ?_
    exact Wx_ireturn dX14_rule_33 rfl rfl (⟨by rw [r_ruleM_87, if_pos h1], rfl⟩)
  ·
    refine Wx_iload1 dX14_rule_7 ?_
    refine Wx_if_lt 32 dX14_rule_8 (by decide) (fun h2 => ?_) (fun h2 => ?_)
    ·
      refine Wx_iconst (v := (-1)) dX14_rule_32 (by decide) ?_
      exact Wx_ireturn dX14_rule_33 rfl rfl (⟨by rw [r_ruleM_87, if_neg h1, if_pos h2], rfl⟩)
    ·
      refine Wx_iload1 dX14_rule_11 ?_
      refine Wx_aload0 dX14_rule_12 ?_
      refine Wx_getR 14 34 87 dX14_rule_13 f_X14_89 rfl (Nat.le_of_ble_eq_true rfl) rfl hC ?_
      refine Wx_getI 13 0 dX14_rule_16 f_X14_533 rfl (Nat.le_of_ble_eq_true rfl) rfl ?_
      refine Wx_icmp_ge 32 dX14_rule_19 (by decide) (fun h3 => ?_) (fun h3 => ?_)
      ·
        refine Wx_iconst (v := (-1)) dX14_rule_32 (by decide) ?_
        exact Wx_ireturn dX14_rule_33 rfl rfl (⟨by rw [r_ruleM_87, if_neg h1, if_neg h2, if_pos h3], rfl⟩)
      ·
        refine Wx_iload2 dX14_rule_22 ?_
        refine Wx_if_lt 32 dX14_rule_23 (by decide) (fun h4 => ?_) (fun h4 => ?_)
        ·
          refine Wx_iconst (v := (-1)) dX14_rule_32 (by decide) ?_
          exact Wx_ireturn dX14_rule_33 rfl rfl (⟨by rw [r_ruleM_87, if_neg h1, if_neg h2, if_neg h3, if_pos h4], rfl⟩)
        ·
          refine Wx_iload2 dX14_rule_26 ?_
          refine Wx_bipush (v := 11) dX14_rule_27 (by decide) ?_
          refine Wx_icmp_le 34 dX14_rule_29 (by decide) (fun h5 => ?_) (fun h5 => ?_)
          ·
            refine Wx_aload0 dX14_rule_34 ?_
            refine Wx_getR 14 34 87 dX14_rule_35 f_X14_89 rfl (Nat.le_of_ble_eq_true rfl) rfl hC ?_
            refine Wx_getR 13 11 94 dX14_rule_38 f_X14_369 rfl (Nat.le_of_ble_eq_true rfl) rfl (hR 87 11 94 (by decide)) ?_
            refine Wx_bipush (v := 12) dX14_rule_41 (by decide) ?_
            refine Wx_iload1 dX14_rule_43 ?_
            refine Wx_imul dX14_rule_44 ?_
            refine Wx_iload2 dX14_rule_45 ?_
            refine Wx_iadd dX14_rule_46 ?_
            refine Wx_iaload 720 dX14_rule_47 rfl (Nat.le_of_ble_eq_true rfl) (vin_ab 12 11 60 rfl h2 h3 hb h4 (rule_w2 h5) (by decide) (by decide) (by decide)) ?_
            exact Wx_ireturn dX14_rule_48 rfl rfl (⟨by rw [r_ruleM_87, if_neg h1, if_neg h2, if_neg h3, if_neg h4, if_pos h5], rfl⟩)
          ·
            refine Wx_iconst (v := (-1)) dX14_rule_32 (by decide) ?_
            exact Wx_ireturn dX14_rule_33 rfl rfl (⟨by rw [r_ruleM_87, if_neg h1, if_neg h2, if_neg h3, if_neg h4, if_neg h5], rfl⟩)
theorem dX14_program_0 : decode cX14_program 0 = .ok (.aload_n 0, 1) := by decide +kernel
theorem dX14_program_1 : decode cX14_program 1 = .ok (.getfield 535, 3) := by decide +kernel
theorem dX14_program_4 : decode cX14_program 4 = .ok (.ifCond .eq 18, 3) := by decide +kernel
theorem dX14_program_7 : decode cX14_program 7 = .ok (.iload_n 1, 1) := by decide +kernel
theorem dX14_program_8 : decode cX14_program 8 = .ok (.ifCond .lt 14, 3) := by decide +kernel
theorem dX14_program_11 : decode cX14_program 11 = .ok (.iload_n 1, 1) := by decide +kernel
theorem dX14_program_12 : decode cX14_program 12 = .ok (.aload_n 0, 1) := by decide +kernel
theorem dX14_program_13 : decode cX14_program 13 = .ok (.getfield 89, 3) := by decide +kernel
theorem dX14_program_16 : decode cX14_program 16 = .ok (.getfield 302, 3) := by decide +kernel
theorem dX14_program_19 : decode cX14_program 19 = .ok (.if_icmp .lt 5, 3) := by decide +kernel
theorem dX14_program_22 : decode cX14_program 22 = .ok (.iconst (-1), 1) := by decide +kernel
theorem dX14_program_23 : decode cX14_program 23 = .ok (.ireturn, 1) := by decide +kernel
theorem dX14_program_24 : decode cX14_program 24 = .ok (.iload_n 2, 1) := by decide +kernel
theorem dX14_program_25 : decode cX14_program 25 = .ok (.tableswitch 71 0 3 #[31, 41, 51, 61], 31) := by decide +kernel
theorem dX14_program_56 : decode cX14_program 56 = .ok (.aload_n 0, 1) := by decide +kernel
theorem dX14_program_57 : decode cX14_program 57 = .ok (.getfield 89, 3) := by decide +kernel
theorem dX14_program_60 : decode cX14_program 60 = .ok (.getfield 309, 3) := by decide +kernel
theorem dX14_program_63 : decode cX14_program 63 = .ok (.iload_n 1, 1) := by decide +kernel
theorem dX14_program_64 : decode cX14_program 64 = .ok (.iaload, 1) := by decide +kernel
theorem dX14_program_65 : decode cX14_program 65 = .ok (.ireturn, 1) := by decide +kernel
theorem dX14_program_66 : decode cX14_program 66 = .ok (.aload_n 0, 1) := by decide +kernel
theorem dX14_program_67 : decode cX14_program 67 = .ok (.getfield 89, 3) := by decide +kernel
theorem dX14_program_70 : decode cX14_program 70 = .ok (.getfield 311, 3) := by decide +kernel
theorem dX14_program_73 : decode cX14_program 73 = .ok (.iload_n 1, 1) := by decide +kernel
theorem dX14_program_74 : decode cX14_program 74 = .ok (.iaload, 1) := by decide +kernel
theorem dX14_program_75 : decode cX14_program 75 = .ok (.ireturn, 1) := by decide +kernel
theorem dX14_program_76 : decode cX14_program 76 = .ok (.aload_n 0, 1) := by decide +kernel
theorem dX14_program_77 : decode cX14_program 77 = .ok (.getfield 89, 3) := by decide +kernel
theorem dX14_program_80 : decode cX14_program 80 = .ok (.getfield 312, 3) := by decide +kernel
theorem dX14_program_83 : decode cX14_program 83 = .ok (.iload_n 1, 1) := by decide +kernel
theorem dX14_program_84 : decode cX14_program 84 = .ok (.iaload, 1) := by decide +kernel
theorem dX14_program_85 : decode cX14_program 85 = .ok (.ireturn, 1) := by decide +kernel
theorem dX14_program_86 : decode cX14_program 86 = .ok (.aload_n 0, 1) := by decide +kernel
theorem dX14_program_87 : decode cX14_program 87 = .ok (.getfield 89, 3) := by decide +kernel
theorem dX14_program_90 : decode cX14_program 90 = .ok (.getfield 504, 3) := by decide +kernel
theorem dX14_program_93 : decode cX14_program 93 = .ok (.iload_n 1, 1) := by decide +kernel
theorem dX14_program_94 : decode cX14_program 94 = .ok (.iaload, 1) := by decide +kernel
theorem dX14_program_95 : decode cX14_program 95 = .ok (.ireturn, 1) := by decide +kernel
theorem dX14_program_96 : decode cX14_program 96 = .ok (.iconst (-1), 1) := by decide +kernel
theorem dX14_program_97 : decode cX14_program 97 = .ok (.ireturn, 1) := by decide +kernel
def r_programM_87 (σ : Hp) (i : Int32) (w : Int32) : Int32 := (if (gI σ 66 35) = 0 then (-1) else (if i < 0 then (-1) else (if i < (gI σ 87 2) then (if w = 0 then (gA σ 88 (i : Int32).toNatClampNeg) else (if w = 1 then (gA σ 89 (i : Int32).toNatClampNeg) else (if w = 2 then (gA σ 90 (i : Int32).toNatClampNeg) else (if w = 3 then (gA σ 91 (i : Int32).toNatClampNeg) else (-1))))) else (-1))))
theorem w_programM_87 (d : Nat) (σ : Hp) (i : Int32) (w : Int32) (hR : Rf σ) (hC : gR σ 66 34 = some 87) (hb : (gI σ 87 2).toInt ≤ (2000 : Nat)) : Cx yX14_program cX14_program 3 (some .int) (d) 122 122 [.ref 66, .int i, .int w] σ (fun o τ => o = .inl (some (.int (r_programM_87 σ i w))) ∧ τ = σ) := by
  refine Cx_of RX14 false (by decide) rfl (fun q => by cases q) (Nat.le_refl _) rfl (Nat.le_of_ble_eq_true rfl) ?_
  refine Wx_aload0 dX14_program_0 ?_
  refine Wx_getI 14 35 dX14_program_1 f_X14_535 rfl (Nat.le_of_ble_eq_true rfl) rfl ?_
  refine Wx_if_eq 22 dX14_program_4 (by decide) (fun h1 => ?_) (fun h1 => ?_)
  ·
    refine Wx_iconst (v := (-1)) dX14_program_22 (by decide) ?_
    exact Wx_ireturn dX14_program_23 rfl rfl (⟨by rw [r_programM_87, if_pos h1], rfl⟩)
  ·
    refine Wx_iload1 dX14_program_7 ?_
    refine Wx_if_lt 22 dX14_program_8 (by decide) (fun h2 => ?_) (fun h2 => ?_)
    ·
      refine Wx_iconst (v := (-1)) dX14_program_22 (by decide) ?_
      exact Wx_ireturn dX14_program_23 rfl rfl (⟨by rw [r_programM_87, if_neg h1, if_pos h2], rfl⟩)
    ·
      refine Wx_iload1 dX14_program_11 ?_
      refine Wx_aload0 dX14_program_12 ?_
      refine Wx_getR 14 34 87 dX14_program_13 f_X14_89 rfl (Nat.le_of_ble_eq_true rfl) rfl hC ?_
      refine Wx_getI 13 2 dX14_program_16 f_X14_302 rfl (Nat.le_of_ble_eq_true rfl) rfl ?_
      refine Wx_icmp_lt 24 dX14_program_19 (by decide) (fun h3 => ?_) (fun h3 => ?_)
      ·
        refine Wx_iload2 dX14_program_24 ?_
        rcases sw_cases (w) 0 4 (by decide) (by decide) with ⟨kh4, hkh4, h4⟩ | h4
        · match kh4, hkh4 with
          | 0, _ =>
            have eh4 : w = 0 := h4.trans (by decide)
            refine Wx_tableIn 56 dX14_program_25 (by rw [eh4]; decide) (by rw [eh4]; decide) (by rw [eh4]; rfl) (by decide) ?_
            refine Wx_aload0 dX14_program_56 ?_
            refine Wx_getR 14 34 87 dX14_program_57 f_X14_89 rfl (Nat.le_of_ble_eq_true rfl) rfl hC ?_
            refine Wx_getR 13 5 88 dX14_program_60 f_X14_309 rfl (Nat.le_of_ble_eq_true rfl) rfl (hR 87 5 88 (by decide)) ?_
            refine Wx_iload1 dX14_program_63 ?_
            refine Wx_iaload 2001 dX14_program_64 rfl (Nat.le_of_ble_eq_true rfl) (vin2 h2 h3 (Int.le_trans hb (by decide))) ?_
            exact Wx_ireturn dX14_program_65 rfl rfl (⟨by rw [r_programM_87, if_neg h1, if_neg h2, if_pos h3, if_pos eh4], rfl⟩)
          | 1, _ =>
            have eh4 : w = 1 := h4.trans (by decide)
            refine Wx_tableIn 66 dX14_program_25 (by rw [eh4]; decide) (by rw [eh4]; decide) (by rw [eh4]; rfl) (by decide) ?_
            refine Wx_aload0 dX14_program_66 ?_
            refine Wx_getR 14 34 87 dX14_program_67 f_X14_89 rfl (Nat.le_of_ble_eq_true rfl) rfl hC ?_
            refine Wx_getR 13 6 89 dX14_program_70 f_X14_311 rfl (Nat.le_of_ble_eq_true rfl) rfl (hR 87 6 89 (by decide)) ?_
            refine Wx_iload1 dX14_program_73 ?_
            refine Wx_iaload 2001 dX14_program_74 rfl (Nat.le_of_ble_eq_true rfl) (vin2 h2 h3 (Int.le_trans hb (by decide))) ?_
            exact Wx_ireturn dX14_program_75 rfl rfl (⟨by rw [r_programM_87, if_neg h1, if_neg h2, if_pos h3, if_neg (show ¬ w = 0 by rw [eh4]; decide), if_pos eh4], rfl⟩)
          | 2, _ =>
            have eh4 : w = 2 := h4.trans (by decide)
            refine Wx_tableIn 76 dX14_program_25 (by rw [eh4]; decide) (by rw [eh4]; decide) (by rw [eh4]; rfl) (by decide) ?_
            refine Wx_aload0 dX14_program_76 ?_
            refine Wx_getR 14 34 87 dX14_program_77 f_X14_89 rfl (Nat.le_of_ble_eq_true rfl) rfl hC ?_
            refine Wx_getR 13 7 90 dX14_program_80 f_X14_312 rfl (Nat.le_of_ble_eq_true rfl) rfl (hR 87 7 90 (by decide)) ?_
            refine Wx_iload1 dX14_program_83 ?_
            refine Wx_iaload 2001 dX14_program_84 rfl (Nat.le_of_ble_eq_true rfl) (vin2 h2 h3 (Int.le_trans hb (by decide))) ?_
            exact Wx_ireturn dX14_program_85 rfl rfl (⟨by rw [r_programM_87, if_neg h1, if_neg h2, if_pos h3, if_neg (show ¬ w = 0 by rw [eh4]; decide), if_neg (show ¬ w = 1 by rw [eh4]; decide), if_pos eh4], rfl⟩)
          | 3, _ =>
            have eh4 : w = 3 := h4.trans (by decide)
            refine Wx_tableIn 86 dX14_program_25 (by rw [eh4]; decide) (by rw [eh4]; decide) (by rw [eh4]; rfl) (by decide) ?_
            refine Wx_aload0 dX14_program_86 ?_
            refine Wx_getR 14 34 87 dX14_program_87 f_X14_89 rfl (Nat.le_of_ble_eq_true rfl) rfl hC ?_
            refine Wx_getR 13 8 91 dX14_program_90 f_X14_504 rfl (Nat.le_of_ble_eq_true rfl) rfl (hR 87 8 91 (by decide)) ?_
            refine Wx_iload1 dX14_program_93 ?_
            refine Wx_iaload 2004 dX14_program_94 rfl (Nat.le_of_ble_eq_true rfl) (vin2 h2 h3 (Int.le_trans hb (by decide))) ?_
            exact Wx_ireturn dX14_program_95 rfl rfl (⟨by rw [r_programM_87, if_neg h1, if_neg h2, if_pos h3, if_neg (show ¬ w = 0 by rw [eh4]; decide), if_neg (show ¬ w = 1 by rw [eh4]; decide), if_neg (show ¬ w = 2 by rw [eh4]; decide), if_pos eh4], rfl⟩)
          | (q + 4), hq => exact absurd hq (by omega)
        · refine Wx_tableOut 96 dX14_program_25 (sw_out (by decide) h4) (by decide) ?_
          refine Wx_iconst (v := (-1)) dX14_program_96 (by decide) ?_
          exact Wx_ireturn dX14_program_97 rfl rfl (⟨by rw [r_programM_87, if_neg h1, if_neg h2, if_pos h3, if_neg (show ¬ w = 0 from fun q => h4 0 (by decide) (q.trans (by decide))), if_neg (show ¬ w = 1 from fun q => h4 1 (by decide) (q.trans (by decide))), if_neg (show ¬ w = 2 from fun q => h4 2 (by decide) (q.trans (by decide))), if_neg (show ¬ w = 3 from fun q => h4 3 (by decide) (q.trans (by decide)))], rfl⟩)
      ·
        refine Wx_iconst (v := (-1)) dX14_program_22 (by decide) ?_
        exact Wx_ireturn dX14_program_23 rfl rfl (⟨by rw [r_programM_87, if_neg h1, if_neg h2, if_neg h3], rfl⟩)
theorem dX14_set_0 : decode cX14_set 0 = .ok (.aload_n 0, 1) := by decide +kernel
theorem dX14_set_1 : decode cX14_set 1 = .ok (.getfield 535, 3) := by decide +kernel
theorem dX14_set_4 : decode cX14_set 4 = .ok (.ifCond .eq 28, 3) := by decide +kernel
theorem dX14_set_7 : decode cX14_set 7 = .ok (.iload_n 1, 1) := by decide +kernel
theorem dX14_set_8 : decode cX14_set 8 = .ok (.ifCond .lt 24, 3) := by decide +kernel
theorem dX14_set_11 : decode cX14_set 11 = .ok (.iload_n 1, 1) := by decide +kernel
theorem dX14_set_12 : decode cX14_set 12 = .ok (.aload_n 0, 1) := by decide +kernel
theorem dX14_set_13 : decode cX14_set 13 = .ok (.getfield 89, 3) := by decide +kernel
theorem dX14_set_16 : decode cX14_set 16 = .ok (.getfield 380, 3) := by decide +kernel
theorem dX14_set_19 : decode cX14_set 19 = .ok (.if_icmp .ge 13, 3) := by decide +kernel
theorem dX14_set_22 : decode cX14_set 22 = .ok (.iload_n 2, 1) := by decide +kernel
theorem dX14_set_23 : decode cX14_set 23 = .ok (.ifCond .lt 9, 3) := by decide +kernel
theorem dX14_set_26 : decode cX14_set 26 = .ok (.iload_n 2, 1) := by decide +kernel
theorem dX14_set_27 : decode cX14_set 27 = .ok (.bipush 7, 2) := by decide +kernel
theorem dX14_set_29 : decode cX14_set 29 = .ok (.if_icmp .le 7, 3) := by decide +kernel
theorem dX14_set_32 : decode cX14_set 32 = .ok (.iconst 0, 1) := by decide +kernel
theorem dX14_set_33 : decode cX14_set 33 = .ok (.goto 17, 3) := by decide +kernel
theorem dX14_set_36 : decode cX14_set 36 = .ok (.aload_n 0, 1) := by decide +kernel
theorem dX14_set_37 : decode cX14_set 37 = .ok (.getfield 89, 3) := by decide +kernel
theorem dX14_set_40 : decode cX14_set 40 = .ok (.getfield 382, 3) := by decide +kernel
theorem dX14_set_43 : decode cX14_set 43 = .ok (.bipush 8, 2) := by decide +kernel
theorem dX14_set_45 : decode cX14_set 45 = .ok (.iload_n 1, 1) := by decide +kernel
theorem dX14_set_46 : decode cX14_set 46 = .ok (.imul, 1) := by decide +kernel
theorem dX14_set_47 : decode cX14_set 47 = .ok (.iload_n 2, 1) := by decide +kernel
theorem dX14_set_48 : decode cX14_set 48 = .ok (.iadd, 1) := by decide +kernel
theorem dX14_set_49 : decode cX14_set 49 = .ok (.iaload, 1) := by decide +kernel
theorem dX14_set_50 : decode cX14_set 50 = .ok (.ireturn, 1) := by decide +kernel
def r_setM_87 (σ : Hp) (k : Int32) (w : Int32) : Int32 := (if (gI σ 66 35) = 0 then 0 else (if k < 0 then 0 else (if (gI σ 87 3) ≤ k then 0 else (if w < 0 then 0 else (if w ≤ 7 then (gA σ 92 (((8 * k) + w) : Int32).toNatClampNeg) else 0)))))
theorem w_setM_87 (d : Nat) (σ : Hp) (k : Int32) (w : Int32) (hR : Rf σ) (hC : gR σ 66 34 = some 87) (hb : (gI σ 87 3).toInt ≤ (128 : Nat)) : Cx yX14_set cX14_set 3 (some .int) (d) 122 122 [.ref 66, .int k, .int w] σ (fun o τ => o = .inl (some (.int (r_setM_87 σ k w))) ∧ τ = σ) := by
  refine Cx_of RX14 false (by decide) rfl (fun q => by cases q) (Nat.le_refl _) rfl (Nat.le_of_ble_eq_true rfl) ?_
  refine Wx_aload0 dX14_set_0 ?_
  refine Wx_getI 14 35 dX14_set_1 f_X14_535 rfl (Nat.le_of_ble_eq_true rfl) rfl ?_
  refine Wx_if_eq 32 dX14_set_4 (by decide) (fun h1 => ?_) (fun h1 => ?_)
  ·
    refine Wx_iconst (v := 0) dX14_set_32 (by decide) ?_
    refine Wx_goto 50 dX14_set_33 (by decide) ?_
    exact Wx_ireturn dX14_set_50 rfl rfl (⟨by rw [r_setM_87, if_pos h1], rfl⟩)
  ·
    refine Wx_iload1 dX14_set_7 ?_
    refine Wx_if_lt 32 dX14_set_8 (by decide) (fun h2 => ?_) (fun h2 => ?_)
    ·
      refine Wx_iconst (v := 0) dX14_set_32 (by decide) ?_
      refine Wx_goto 50 dX14_set_33 (by decide) ?_
      exact Wx_ireturn dX14_set_50 rfl rfl (⟨by rw [r_setM_87, if_neg h1, if_pos h2], rfl⟩)
    ·
      refine Wx_iload1 dX14_set_11 ?_
      refine Wx_aload0 dX14_set_12 ?_
      refine Wx_getR 14 34 87 dX14_set_13 f_X14_89 rfl (Nat.le_of_ble_eq_true rfl) rfl hC ?_
      refine Wx_getI 13 3 dX14_set_16 f_X14_380 rfl (Nat.le_of_ble_eq_true rfl) rfl ?_
      refine Wx_icmp_ge 32 dX14_set_19 (by decide) (fun h3 => ?_) (fun h3 => ?_)
      ·
        refine Wx_iconst (v := 0) dX14_set_32 (by decide) ?_
        refine Wx_goto 50 dX14_set_33 (by decide) ?_
        exact Wx_ireturn dX14_set_50 rfl rfl (⟨by rw [r_setM_87, if_neg h1, if_neg h2, if_pos h3], rfl⟩)
      ·
        refine Wx_iload2 dX14_set_22 ?_
        refine Wx_if_lt 32 dX14_set_23 (by decide) (fun h4 => ?_) (fun h4 => ?_)
        ·
          refine Wx_iconst (v := 0) dX14_set_32 (by decide) ?_
          refine Wx_goto 50 dX14_set_33 (by decide) ?_
          exact Wx_ireturn dX14_set_50 rfl rfl (⟨by rw [r_setM_87, if_neg h1, if_neg h2, if_neg h3, if_pos h4], rfl⟩)
        ·
          refine Wx_iload2 dX14_set_26 ?_
          refine Wx_bipush (v := 7) dX14_set_27 (by decide) ?_
          refine Wx_icmp_le 36 dX14_set_29 (by decide) (fun h5 => ?_) (fun h5 => ?_)
          ·
            refine Wx_aload0 dX14_set_36 ?_
            refine Wx_getR 14 34 87 dX14_set_37 f_X14_89 rfl (Nat.le_of_ble_eq_true rfl) rfl hC ?_
            refine Wx_getR 13 9 92 dX14_set_40 f_X14_382 rfl (Nat.le_of_ble_eq_true rfl) rfl (hR 87 9 92 (by decide)) ?_
            refine Wx_bipush (v := 8) dX14_set_43 (by decide) ?_
            refine Wx_iload1 dX14_set_45 ?_
            refine Wx_imul dX14_set_46 ?_
            refine Wx_iload2 dX14_set_47 ?_
            refine Wx_iadd dX14_set_48 ?_
            refine Wx_iaload 1032 dX14_set_49 rfl (Nat.le_of_ble_eq_true rfl) (vin_ab 8 7 128 rfl h2 h3 hb h4 (set_w h5) (by decide) (by decide) (by decide)) ?_
            exact Wx_ireturn dX14_set_50 rfl rfl (⟨by rw [r_setM_87, if_neg h1, if_neg h2, if_neg h3, if_neg h4, if_pos h5], rfl⟩)
          ·
            refine Wx_iconst (v := 0) dX14_set_32 (by decide) ?_
            refine Wx_goto 50 dX14_set_33 (by decide) ?_
            exact Wx_ireturn dX14_set_50 rfl rfl (⟨by rw [r_setM_87, if_neg h1, if_neg h2, if_neg h3, if_neg h4, if_neg h5], rfl⟩)
theorem dX14_image__0 : decode cX14_image_ 0 = .ok (.aload_n 0, 1) := by decide +kernel
theorem dX14_image__1 : decode cX14_image_ 1 = .ok (.getfield 535, 3) := by decide +kernel
theorem dX14_image__4 : decode cX14_image_ 4 = .ok (.ifCond .eq 18, 3) := by decide +kernel
theorem dX14_image__7 : decode cX14_image_ 7 = .ok (.iload_n 1, 1) := by decide +kernel
theorem dX14_image__8 : decode cX14_image_ 8 = .ok (.ifCond .lt 14, 3) := by decide +kernel
theorem dX14_image__11 : decode cX14_image_ 11 = .ok (.iload_n 1, 1) := by decide +kernel
theorem dX14_image__12 : decode cX14_image_ 12 = .ok (.aload_n 0, 1) := by decide +kernel
theorem dX14_image__13 : decode cX14_image_ 13 = .ok (.getfield 89, 3) := by decide +kernel
theorem dX14_image__16 : decode cX14_image_ 16 = .ok (.getfield 507, 3) := by decide +kernel
theorem dX14_image__19 : decode cX14_image_ 19 = .ok (.if_icmp .lt 7, 3) := by decide +kernel
theorem dX14_image__22 : decode cX14_image_ 22 = .ok (.iconst (-1), 1) := by decide +kernel
theorem dX14_image__23 : decode cX14_image_ 23 = .ok (.goto 16, 3) := by decide +kernel
theorem dX14_image__26 : decode cX14_image_ 26 = .ok (.aload_n 0, 1) := by decide +kernel
theorem dX14_image__27 : decode cX14_image_ 27 = .ok (.getfield 89, 3) := by decide +kernel
theorem dX14_image__30 : decode cX14_image_ 30 = .ok (.getfield 516, 3) := by decide +kernel
theorem dX14_image__33 : decode cX14_image_ 33 = .ok (.iload_n 1, 1) := by decide +kernel
theorem dX14_image__34 : decode cX14_image_ 34 = .ok (.baload, 1) := by decide +kernel
theorem dX14_image__35 : decode cX14_image_ 35 = .ok (.sipush 255, 3) := by decide +kernel
theorem dX14_image__38 : decode cX14_image_ 38 = .ok (.iand, 1) := by decide +kernel
theorem dX14_image__39 : decode cX14_image_ 39 = .ok (.ireturn, 1) := by decide +kernel
def r_imageM_87 (σ : Hp) (i : Int32) : Int32 := (if (gI σ 66 35) = 0 then (-1) else (if i < 0 then (-1) else (if i < (gI σ 87 4) then (((gA σ 93 (i : Int32).toNatClampNeg) : Int32) &&& 255) else (-1))))
theorem w_imageM_87 (d : Nat) (σ : Hp) (i : Int32) (hR : Rf σ) (hC : gR σ 66 34 = some 87) (hb : (gI σ 87 4).toInt ≤ (61440 : Nat)) : Cx yX14_image_ cX14_image_ 2 (some .int) (d) 122 122 [.ref 66, .int i] σ (fun o τ => o = .inl (some (.int (r_imageM_87 σ i))) ∧ τ = σ) := by
  refine Cx_of RX14 false (by decide) rfl (fun q => by cases q) (Nat.le_refl _) rfl (Nat.le_of_ble_eq_true rfl) ?_
  refine Wx_aload0 dX14_image__0 ?_
  refine Wx_getI 14 35 dX14_image__1 f_X14_535 rfl (Nat.le_of_ble_eq_true rfl) rfl ?_
  refine Wx_if_eq 22 dX14_image__4 (by decide) (fun h1 => ?_) (fun h1 => ?_)
  ·
    refine Wx_iconst (v := (-1)) dX14_image__22 (by decide) ?_
    refine Wx_goto 39 dX14_image__23 (by decide) ?_
    exact Wx_ireturn dX14_image__39 rfl rfl (⟨by rw [r_imageM_87, if_pos h1], rfl⟩)
  ·
    refine Wx_iload1 dX14_image__7 ?_
    refine Wx_if_lt 22 dX14_image__8 (by decide) (fun h2 => ?_) (fun h2 => ?_)
    ·
      refine Wx_iconst (v := (-1)) dX14_image__22 (by decide) ?_
      refine Wx_goto 39 dX14_image__23 (by decide) ?_
      exact Wx_ireturn dX14_image__39 rfl rfl (⟨by rw [r_imageM_87, if_neg h1, if_pos h2], rfl⟩)
    ·
      refine Wx_iload1 dX14_image__11 ?_
      refine Wx_aload0 dX14_image__12 ?_
      refine Wx_getR 14 34 87 dX14_image__13 f_X14_89 rfl (Nat.le_of_ble_eq_true rfl) rfl hC ?_
      refine Wx_getI 13 4 dX14_image__16 f_X14_507 rfl (Nat.le_of_ble_eq_true rfl) rfl ?_
      refine Wx_icmp_lt 26 dX14_image__19 (by decide) (fun h3 => ?_) (fun h3 => ?_)
      ·
        refine Wx_aload0 dX14_image__26 ?_
        refine Wx_getR 14 34 87 dX14_image__27 f_X14_89 rfl (Nat.le_of_ble_eq_true rfl) rfl hC ?_
        refine Wx_getR 13 10 93 dX14_image__30 f_X14_516 rfl (Nat.le_of_ble_eq_true rfl) rfl (hR 87 10 93 (by decide)) ?_
        refine Wx_iload1 dX14_image__33 ?_
        refine Wx_baload 61440 dX14_image__34 rfl (Nat.le_of_ble_eq_true rfl) (vin2 h2 h3 hb) ?_
        refine Wx_sipush (v := 255) dX14_image__35 (by decide) ?_
        refine Wx_iand dX14_image__38 ?_
        exact Wx_ireturn dX14_image__39 rfl rfl (⟨by rw [r_imageM_87, if_neg h1, if_neg h2, if_pos h3], rfl⟩)
      ·
        refine Wx_iconst (v := (-1)) dX14_image__22 (by decide) ?_
        refine Wx_goto 39 dX14_image__23 (by decide) ?_
        exact Wx_ireturn dX14_image__39 rfl rfl (⟨by rw [r_imageM_87, if_neg h1, if_neg h2, if_neg h3], rfl⟩)
def r_countM_95 (σ : Hp) (w : Int32) : Int32 := (if w = 0 then (if (gI σ 66 35) = 0 then 0 else (gI σ 95 0)) else (if w = 1 then (if (gI σ 66 35) = 0 then 0 else (gI σ 95 2)) else (if w = 2 then (if (gI σ 66 35) = 0 then 0 else (gI σ 95 3)) else (if w = 3 then (if (gI σ 66 35) = 0 then 0 else (gI σ 95 4)) else (if w = 4 then (if (gI σ 66 35) = 0 then 0 else (gI σ 95 1)) else (if w = 5 then (gI σ 66 4) else (if w = 6 then (gI σ 66 2) else (if w = 7 then (gI σ 66 50) else (-1)))))))))
theorem w_countM_95 (d : Nat) (σ : Hp) (w : Int32) (hC : gR σ 66 34 = some 95) : Cx yX14_count cX14_count 2 (some .int) (d) 122 122 [.ref 66, .int w] σ (fun o τ => o = .inl (some (.int (r_countM_95 σ w))) ∧ τ = σ) := by
  refine Cx_of RX14 false (by decide) rfl (fun q => by cases q) (Nat.le_refl _) rfl (Nat.le_of_ble_eq_true rfl) ?_
  refine Wx_iload1 dX14_count_0 ?_
  rcases sw_cases (w) 0 8 (by decide) (by decide) with ⟨kh1, hkh1, h1⟩ | h1
  · match kh1, hkh1 with
    | 0, _ =>
      have eh1 : w = 0 := h1.trans (by decide)
      refine Wx_tableIn 48 dX14_count_1 (by rw [eh1]; decide) (by rw [eh1]; decide) (by rw [eh1]; rfl) (by decide) ?_
      refine Wx_aload0 dX14_count_48 ?_
      refine Wx_getI 14 35 dX14_count_49 f_X14_535 rfl (Nat.le_of_ble_eq_true rfl) rfl ?_
      refine Wx_if_eq 65 dX14_count_52 (by decide) (fun h2 => ?_) (fun h2 => ?_)
      ·
        refine Wx_iconst (v := 0) dX14_count_65 (by decide) ?_
        exact Wx_ireturn dX14_count_66 rfl rfl (⟨by rw [r_countM_95, if_pos eh1, if_pos h2], rfl⟩)
      ·
        refine Wx_aload0 dX14_count_55 ?_
        refine Wx_getR 14 34 95 dX14_count_56 f_X14_89 rfl (Nat.le_of_ble_eq_true rfl) rfl hC ?_
        refine Wx_getI 13 0 dX14_count_59 f_X14_533 rfl (Nat.le_of_ble_eq_true rfl) rfl ?_
        refine Wx_goto 66 dX14_count_62 (by decide) ?_
        exact Wx_ireturn dX14_count_66 rfl rfl (⟨by rw [r_countM_95, if_pos eh1, if_neg h2], rfl⟩)
    | 1, _ =>
      have eh1 : w = 1 := h1.trans (by decide)
      refine Wx_tableIn 67 dX14_count_1 (by rw [eh1]; decide) (by rw [eh1]; decide) (by rw [eh1]; rfl) (by decide) ?_
      refine Wx_aload0 dX14_count_67 ?_
      refine Wx_getI 14 35 dX14_count_68 f_X14_535 rfl (Nat.le_of_ble_eq_true rfl) rfl ?_
      refine Wx_if_eq 84 dX14_count_71 (by decide) (fun h3 => ?_) (fun h3 => ?_)
      ·
        refine Wx_iconst (v := 0) dX14_count_84 (by decide) ?_
        exact Wx_ireturn dX14_count_85 rfl rfl (⟨by rw [r_countM_95, if_neg (show ¬ w = 0 by rw [eh1]; decide), if_pos eh1, if_pos h3], rfl⟩)
      ·
        refine Wx_aload0 dX14_count_74 ?_
        refine Wx_getR 14 34 95 dX14_count_75 f_X14_89 rfl (Nat.le_of_ble_eq_true rfl) rfl hC ?_
        refine Wx_getI 13 2 dX14_count_78 f_X14_302 rfl (Nat.le_of_ble_eq_true rfl) rfl ?_
        refine Wx_goto 85 dX14_count_81 (by decide) ?_
        exact Wx_ireturn dX14_count_85 rfl rfl (⟨by rw [r_countM_95, if_neg (show ¬ w = 0 by rw [eh1]; decide), if_pos eh1, if_neg h3], rfl⟩)
    | 2, _ =>
      have eh1 : w = 2 := h1.trans (by decide)
      refine Wx_tableIn 86 dX14_count_1 (by rw [eh1]; decide) (by rw [eh1]; decide) (by rw [eh1]; rfl) (by decide) ?_
      refine Wx_aload0 dX14_count_86 ?_
      refine Wx_getI 14 35 dX14_count_87 f_X14_535 rfl (Nat.le_of_ble_eq_true rfl) rfl ?_
      refine Wx_if_eq 103 dX14_count_90 (by decide) (fun h4 => ?_) (fun h4 => ?_)
      ·
        refine Wx_iconst (v := 0) dX14_count_103 (by decide) ?_
        exact Wx_ireturn dX14_count_104 rfl rfl (⟨by rw [r_countM_95, if_neg (show ¬ w = 0 by rw [eh1]; decide), if_neg (show ¬ w = 1 by rw [eh1]; decide), if_pos eh1, if_pos h4], rfl⟩)
      ·
        refine Wx_aload0 dX14_count_93 ?_
        refine Wx_getR 14 34 95 dX14_count_94 f_X14_89 rfl (Nat.le_of_ble_eq_true rfl) rfl hC ?_
        refine Wx_getI 13 3 dX14_count_97 f_X14_380 rfl (Nat.le_of_ble_eq_true rfl) rfl ?_
        refine Wx_goto 104 dX14_count_100 (by decide) ?_
        exact Wx_ireturn dX14_count_104 rfl rfl (⟨by rw [r_countM_95, if_neg (show ¬ w = 0 by rw [eh1]; decide), if_neg (show ¬ w = 1 by rw [eh1]; decide), if_pos eh1, if_neg h4], rfl⟩)
    | 3, _ =>
      have eh1 : w = 3 := h1.trans (by decide)
      refine Wx_tableIn 105 dX14_count_1 (by rw [eh1]; decide) (by rw [eh1]; decide) (by rw [eh1]; rfl) (by decide) ?_
      refine Wx_aload0 dX14_count_105 ?_
      refine Wx_getI 14 35 dX14_count_106 f_X14_535 rfl (Nat.le_of_ble_eq_true rfl) rfl ?_
      refine Wx_if_eq 122 dX14_count_109 (by decide) (fun h5 => ?_) (fun h5 => ?_)
      ·
        refine Wx_iconst (v := 0) dX14_count_122 (by decide) ?_
        exact Wx_ireturn dX14_count_123 rfl rfl (⟨by rw [r_countM_95, if_neg (show ¬ w = 0 by rw [eh1]; decide), if_neg (show ¬ w = 1 by rw [eh1]; decide), if_neg (show ¬ w = 2 by rw [eh1]; decide), if_pos eh1, if_pos h5], rfl⟩)
      ·
        refine Wx_aload0 dX14_count_112 ?_
        refine Wx_getR 14 34 95 dX14_count_113 f_X14_89 rfl (Nat.le_of_ble_eq_true rfl) rfl hC ?_
        refine Wx_getI 13 4 dX14_count_116 f_X14_507 rfl (Nat.le_of_ble_eq_true rfl) rfl ?_
        refine Wx_goto 123 dX14_count_119 (by decide) ?_
        exact Wx_ireturn dX14_count_123 rfl rfl (⟨by rw [r_countM_95, if_neg (show ¬ w = 0 by rw [eh1]; decide), if_neg (show ¬ w = 1 by rw [eh1]; decide), if_neg (show ¬ w = 2 by rw [eh1]; decide), if_pos eh1, if_neg h5], rfl⟩)
    | 4, _ =>
      have eh1 : w = 4 := h1.trans (by decide)
      refine Wx_tableIn 124 dX14_count_1 (by rw [eh1]; decide) (by rw [eh1]; decide) (by rw [eh1]; rfl) (by decide) ?_
      refine Wx_aload0 dX14_count_124 ?_
      refine Wx_getI 14 35 dX14_count_125 f_X14_535 rfl (Nat.le_of_ble_eq_true rfl) rfl ?_
      refine Wx_if_eq 141 dX14_count_128 (by decide) (fun h6 => ?_) (fun h6 => ?_)
      ·
        refine Wx_iconst (v := 0) dX14_count_141 (by decide) ?_
        exact Wx_ireturn dX14_count_142 rfl rfl (⟨by rw [r_countM_95, if_neg (show ¬ w = 0 by rw [eh1]; decide), if_neg (show ¬ w = 1 by rw [eh1]; decide), if_neg (show ¬ w = 2 by rw [eh1]; decide), if_neg (show ¬ w = 3 by rw [eh1]; decide), if_pos eh1, if_pos h6], rfl⟩)
      ·
        refine Wx_aload0 dX14_count_131 ?_
        refine Wx_getR 14 34 95 dX14_count_132 f_X14_89 rfl (Nat.le_of_ble_eq_true rfl) rfl hC ?_
        refine Wx_getI 13 1 dX14_count_135 f_X14_534 rfl (Nat.le_of_ble_eq_true rfl) rfl ?_
        refine Wx_goto 142 dX14_count_138 (by decide) ?_
        exact Wx_ireturn dX14_count_142 rfl rfl (⟨by rw [r_countM_95, if_neg (show ¬ w = 0 by rw [eh1]; decide), if_neg (show ¬ w = 1 by rw [eh1]; decide), if_neg (show ¬ w = 2 by rw [eh1]; decide), if_neg (show ¬ w = 3 by rw [eh1]; decide), if_pos eh1, if_neg h6], rfl⟩)
    | 5, _ =>
      have eh1 : w = 5 := h1.trans (by decide)
      refine Wx_tableIn 143 dX14_count_1 (by rw [eh1]; decide) (by rw [eh1]; decide) (by rw [eh1]; rfl) (by decide) ?_
      refine Wx_aload0 dX14_count_143 ?_
      refine Wx_getI 14 4 dX14_count_144 f_X14_161 rfl (Nat.le_of_ble_eq_true rfl) rfl ?_
      exact Wx_ireturn dX14_count_147 rfl rfl (⟨by rw [r_countM_95, if_neg (show ¬ w = 0 by rw [eh1]; decide), if_neg (show ¬ w = 1 by rw [eh1]; decide), if_neg (show ¬ w = 2 by rw [eh1]; decide), if_neg (show ¬ w = 3 by rw [eh1]; decide), if_neg (show ¬ w = 4 by rw [eh1]; decide), if_pos eh1], rfl⟩)
    | 6, _ =>
      have eh1 : w = 6 := h1.trans (by decide)
      refine Wx_tableIn 148 dX14_count_1 (by rw [eh1]; decide) (by rw [eh1]; decide) (by rw [eh1]; rfl) (by decide) ?_
      refine Wx_aload0 dX14_count_148 ?_
      refine Wx_getI 14 2 dX14_count_149 f_X14_158 rfl (Nat.le_of_ble_eq_true rfl) rfl ?_
      exact Wx_ireturn dX14_count_152 rfl rfl (⟨by rw [r_countM_95, if_neg (show ¬ w = 0 by rw [eh1]; decide), if_neg (show ¬ w = 1 by rw [eh1]; decide), if_neg (show ¬ w = 2 by rw [eh1]; decide), if_neg (show ¬ w = 3 by rw [eh1]; decide), if_neg (show ¬ w = 4 by rw [eh1]; decide), if_neg (show ¬ w = 5 by rw [eh1]; decide), if_pos eh1], rfl⟩)
    | 7, _ =>
      have eh1 : w = 7 := h1.trans (by decide)
      refine Wx_tableIn 153 dX14_count_1 (by rw [eh1]; decide) (by rw [eh1]; decide) (by rw [eh1]; rfl) (by decide) ?_
      refine Wx_aload0 dX14_count_153 ?_
      refine Wx_getI 14 50 dX14_count_154 f_X14_538 rfl (Nat.le_of_ble_eq_true rfl) rfl ?_
      exact Wx_ireturn dX14_count_157 rfl rfl (⟨by rw [r_countM_95, if_neg (show ¬ w = 0 by rw [eh1]; decide), if_neg (show ¬ w = 1 by rw [eh1]; decide), if_neg (show ¬ w = 2 by rw [eh1]; decide), if_neg (show ¬ w = 3 by rw [eh1]; decide), if_neg (show ¬ w = 4 by rw [eh1]; decide), if_neg (show ¬ w = 5 by rw [eh1]; decide), if_neg (show ¬ w = 6 by rw [eh1]; decide), if_pos eh1], rfl⟩)
    | (q + 8), hq => exact absurd hq (by omega)
  · refine Wx_tableOut 158 dX14_count_1 (sw_out (by decide) h1) (by decide) ?_
    refine Wx_iconst (v := (-1)) dX14_count_158 (by decide) ?_
    exact Wx_ireturn dX14_count_159 rfl rfl (⟨by rw [r_countM_95, if_neg (show ¬ w = 0 from fun q => h1 0 (by decide) (q.trans (by decide))), if_neg (show ¬ w = 1 from fun q => h1 1 (by decide) (q.trans (by decide))), if_neg (show ¬ w = 2 from fun q => h1 2 (by decide) (q.trans (by decide))), if_neg (show ¬ w = 3 from fun q => h1 3 (by decide) (q.trans (by decide))), if_neg (show ¬ w = 4 from fun q => h1 4 (by decide) (q.trans (by decide))), if_neg (show ¬ w = 5 from fun q => h1 5 (by decide) (q.trans (by decide))), if_neg (show ¬ w = 6 from fun q => h1 6 (by decide) (q.trans (by decide))), if_neg (show ¬ w = 7 from fun q => h1 7 (by decide) (q.trans (by decide)))], rfl⟩)
def r_ruleM_95 (σ : Hp) (k : Int32) (w : Int32) : Int32 := (if (gI σ 66 35) = 0 then (-1) else (if k < 0 then (-1) else (if (gI σ 95 0) ≤ k then (-1) else (if w < 0 then (-1) else (if w ≤ 11 then (gA σ 102 (((12 * k) + w) : Int32).toNatClampNeg) else (-1))))))
theorem w_ruleM_95 (d : Nat) (σ : Hp) (k : Int32) (w : Int32) (hR : Rf σ) (hC : gR σ 66 34 = some 95) (hb : (gI σ 95 0).toInt ≤ (60 : Nat)) : Cx yX14_rule cX14_rule 3 (some .int) (d) 122 122 [.ref 66, .int k, .int w] σ (fun o τ => o = .inl (some (.int (r_ruleM_95 σ k w))) ∧ τ = σ) := by
  refine Cx_of RX14 false (by decide) rfl (fun q => by cases q) (Nat.le_refl _) rfl (Nat.le_of_ble_eq_true rfl) ?_
  refine Wx_aload0 dX14_rule_0 ?_
  refine Wx_getI 14 35 dX14_rule_1 f_X14_535 rfl (Nat.le_of_ble_eq_true rfl) rfl ?_
  refine Wx_if_eq 32 dX14_rule_4 (by decide) (fun h1 => ?_) (fun h1 => ?_)
  ·
    refine Wx_iconst (v := (-1)) dX14_rule_32 (by decide) ?_
    exact Wx_ireturn dX14_rule_33 rfl rfl (⟨by rw [r_ruleM_95, if_pos h1], rfl⟩)
  ·
    refine Wx_iload1 dX14_rule_7 ?_
    refine Wx_if_lt 32 dX14_rule_8 (by decide) (fun h2 => ?_) (fun h2 => ?_)
    ·
      refine Wx_iconst (v := (-1)) dX14_rule_32 (by decide) ?_
      exact Wx_ireturn dX14_rule_33 rfl rfl (⟨by rw [r_ruleM_95, if_neg h1, if_pos h2], rfl⟩)
    ·
      refine Wx_iload1 dX14_rule_11 ?_
      refine Wx_aload0 dX14_rule_12 ?_
      refine Wx_getR 14 34 95 dX14_rule_13 f_X14_89 rfl (Nat.le_of_ble_eq_true rfl) rfl hC ?_
      refine Wx_getI 13 0 dX14_rule_16 f_X14_533 rfl (Nat.le_of_ble_eq_true rfl) rfl ?_
      refine Wx_icmp_ge 32 dX14_rule_19 (by decide) (fun h3 => ?_) (fun h3 => ?_)
      ·
        refine Wx_iconst (v := (-1)) dX14_rule_32 (by decide) ?_
        exact Wx_ireturn dX14_rule_33 rfl rfl (⟨by rw [r_ruleM_95, if_neg h1, if_neg h2, if_pos h3], rfl⟩)
      ·
        refine Wx_iload2 dX14_rule_22 ?_
        refine Wx_if_lt 32 dX14_rule_23 (by decide) (fun h4 => ?_) (fun h4 => ?_)
        ·
          refine Wx_iconst (v := (-1)) dX14_rule_32 (by decide) ?_
          exact Wx_ireturn dX14_rule_33 rfl rfl (⟨by rw [r_ruleM_95, if_neg h1, if_neg h2, if_neg h3, if_pos h4], rfl⟩)
        ·
          refine Wx_iload2 dX14_rule_26 ?_
          refine Wx_bipush (v := 11) dX14_rule_27 (by decide) ?_
          refine Wx_icmp_le 34 dX14_rule_29 (by decide) (fun h5 => ?_) (fun h5 => ?_)
          ·
            refine Wx_aload0 dX14_rule_34 ?_
            refine Wx_getR 14 34 95 dX14_rule_35 f_X14_89 rfl (Nat.le_of_ble_eq_true rfl) rfl hC ?_
            refine Wx_getR 13 11 102 dX14_rule_38 f_X14_369 rfl (Nat.le_of_ble_eq_true rfl) rfl (hR 95 11 102 (by decide)) ?_
            refine Wx_bipush (v := 12) dX14_rule_41 (by decide) ?_
            refine Wx_iload1 dX14_rule_43 ?_
            refine Wx_imul dX14_rule_44 ?_
            refine Wx_iload2 dX14_rule_45 ?_
            refine Wx_iadd dX14_rule_46 ?_
            refine Wx_iaload 720 dX14_rule_47 rfl (Nat.le_of_ble_eq_true rfl) (vin_ab 12 11 60 rfl h2 h3 hb h4 (rule_w2 h5) (by decide) (by decide) (by decide)) ?_
            exact Wx_ireturn dX14_rule_48 rfl rfl (⟨by rw [r_ruleM_95, if_neg h1, if_neg h2, if_neg h3, if_neg h4, if_pos h5], rfl⟩)
          ·
            refine Wx_iconst (v := (-1)) dX14_rule_32 (by decide) ?_
            exact Wx_ireturn dX14_rule_33 rfl rfl (⟨by rw [r_ruleM_95, if_neg h1, if_neg h2, if_neg h3, if_neg h4, if_neg h5], rfl⟩)
def r_programM_95 (σ : Hp) (i : Int32) (w : Int32) : Int32 := (if (gI σ 66 35) = 0 then (-1) else (if i < 0 then (-1) else (if i < (gI σ 95 2) then (if w = 0 then (gA σ 96 (i : Int32).toNatClampNeg) else (if w = 1 then (gA σ 97 (i : Int32).toNatClampNeg) else (if w = 2 then (gA σ 98 (i : Int32).toNatClampNeg) else (if w = 3 then (gA σ 99 (i : Int32).toNatClampNeg) else (-1))))) else (-1))))
theorem w_programM_95 (d : Nat) (σ : Hp) (i : Int32) (w : Int32) (hR : Rf σ) (hC : gR σ 66 34 = some 95) (hb : (gI σ 95 2).toInt ≤ (2000 : Nat)) : Cx yX14_program cX14_program 3 (some .int) (d) 122 122 [.ref 66, .int i, .int w] σ (fun o τ => o = .inl (some (.int (r_programM_95 σ i w))) ∧ τ = σ) := by
  refine Cx_of RX14 false (by decide) rfl (fun q => by cases q) (Nat.le_refl _) rfl (Nat.le_of_ble_eq_true rfl) ?_
  refine Wx_aload0 dX14_program_0 ?_
  refine Wx_getI 14 35 dX14_program_1 f_X14_535 rfl (Nat.le_of_ble_eq_true rfl) rfl ?_
  refine Wx_if_eq 22 dX14_program_4 (by decide) (fun h1 => ?_) (fun h1 => ?_)
  ·
    refine Wx_iconst (v := (-1)) dX14_program_22 (by decide) ?_
    exact Wx_ireturn dX14_program_23 rfl rfl (⟨by rw [r_programM_95, if_pos h1], rfl⟩)
  ·
    refine Wx_iload1 dX14_program_7 ?_
    refine Wx_if_lt 22 dX14_program_8 (by decide) (fun h2 => ?_) (fun h2 => ?_)
    ·
      refine Wx_iconst (v := (-1)) dX14_program_22 (by decide) ?_
      exact Wx_ireturn dX14_program_23 rfl rfl (⟨by rw [r_programM_95, if_neg h1, if_pos h2], rfl⟩)
    ·
      refine Wx_iload1 dX14_program_11 ?_
      refine Wx_aload0 dX14_program_12 ?_
      refine Wx_getR 14 34 95 dX14_program_13 f_X14_89 rfl (Nat.le_of_ble_eq_true rfl) rfl hC ?_
      refine Wx_getI 13 2 dX14_program_16 f_X14_302 rfl (Nat.le_of_ble_eq_true rfl) rfl ?_
      refine Wx_icmp_lt 24 dX14_program_19 (by decide) (fun h3 => ?_) (fun h3 => ?_)
      ·
        refine Wx_iload2 dX14_program_24 ?_
        rcases sw_cases (w) 0 4 (by decide) (by decide) with ⟨kh4, hkh4, h4⟩ | h4
        · match kh4, hkh4 with
          | 0, _ =>
            have eh4 : w = 0 := h4.trans (by decide)
            refine Wx_tableIn 56 dX14_program_25 (by rw [eh4]; decide) (by rw [eh4]; decide) (by rw [eh4]; rfl) (by decide) ?_
            refine Wx_aload0 dX14_program_56 ?_
            refine Wx_getR 14 34 95 dX14_program_57 f_X14_89 rfl (Nat.le_of_ble_eq_true rfl) rfl hC ?_
            refine Wx_getR 13 5 96 dX14_program_60 f_X14_309 rfl (Nat.le_of_ble_eq_true rfl) rfl (hR 95 5 96 (by decide)) ?_
            refine Wx_iload1 dX14_program_63 ?_
            refine Wx_iaload 2001 dX14_program_64 rfl (Nat.le_of_ble_eq_true rfl) (vin2 h2 h3 (Int.le_trans hb (by decide))) ?_
            exact Wx_ireturn dX14_program_65 rfl rfl (⟨by rw [r_programM_95, if_neg h1, if_neg h2, if_pos h3, if_pos eh4], rfl⟩)
          | 1, _ =>
            have eh4 : w = 1 := h4.trans (by decide)
            refine Wx_tableIn 66 dX14_program_25 (by rw [eh4]; decide) (by rw [eh4]; decide) (by rw [eh4]; rfl) (by decide) ?_
            refine Wx_aload0 dX14_program_66 ?_
            refine Wx_getR 14 34 95 dX14_program_67 f_X14_89 rfl (Nat.le_of_ble_eq_true rfl) rfl hC ?_
            refine Wx_getR 13 6 97 dX14_program_70 f_X14_311 rfl (Nat.le_of_ble_eq_true rfl) rfl (hR 95 6 97 (by decide)) ?_
            refine Wx_iload1 dX14_program_73 ?_
            refine Wx_iaload 2001 dX14_program_74 rfl (Nat.le_of_ble_eq_true rfl) (vin2 h2 h3 (Int.le_trans hb (by decide))) ?_
            exact Wx_ireturn dX14_program_75 rfl rfl (⟨by rw [r_programM_95, if_neg h1, if_neg h2, if_pos h3, if_neg (show ¬ w = 0 by rw [eh4]; decide), if_pos eh4], rfl⟩)
          | 2, _ =>
            have eh4 : w = 2 := h4.trans (by decide)
            refine Wx_tableIn 76 dX14_program_25 (by rw [eh4]; decide) (by rw [eh4]; decide) (by rw [eh4]; rfl) (by decide) ?_
            refine Wx_aload0 dX14_program_76 ?_
            refine Wx_getR 14 34 95 dX14_program_77 f_X14_89 rfl (Nat.le_of_ble_eq_true rfl) rfl hC ?_
            refine Wx_getR 13 7 98 dX14_program_80 f_X14_312 rfl (Nat.le_of_ble_eq_true rfl) rfl (hR 95 7 98 (by decide)) ?_
            refine Wx_iload1 dX14_program_83 ?_
            refine Wx_iaload 2001 dX14_program_84 rfl (Nat.le_of_ble_eq_true rfl) (vin2 h2 h3 (Int.le_trans hb (by decide))) ?_
            exact Wx_ireturn dX14_program_85 rfl rfl (⟨by rw [r_programM_95, if_neg h1, if_neg h2, if_pos h3, if_neg (show ¬ w = 0 by rw [eh4]; decide), if_neg (show ¬ w = 1 by rw [eh4]; decide), if_pos eh4], rfl⟩)
          | 3, _ =>
            have eh4 : w = 3 := h4.trans (by decide)
            refine Wx_tableIn 86 dX14_program_25 (by rw [eh4]; decide) (by rw [eh4]; decide) (by rw [eh4]; rfl) (by decide) ?_
            refine Wx_aload0 dX14_program_86 ?_
            refine Wx_getR 14 34 95 dX14_program_87 f_X14_89 rfl (Nat.le_of_ble_eq_true rfl) rfl hC ?_
            refine Wx_getR 13 8 99 dX14_program_90 f_X14_504 rfl (Nat.le_of_ble_eq_true rfl) rfl (hR 95 8 99 (by decide)) ?_
            refine Wx_iload1 dX14_program_93 ?_
            refine Wx_iaload 2004 dX14_program_94 rfl (Nat.le_of_ble_eq_true rfl) (vin2 h2 h3 (Int.le_trans hb (by decide))) ?_
            exact Wx_ireturn dX14_program_95 rfl rfl (⟨by rw [r_programM_95, if_neg h1, if_neg h2, if_pos h3, if_neg (show ¬ w = 0 by rw [eh4]; decide), if_neg (show ¬ w = 1 by rw [eh4]; decide), if_neg (show ¬ w = 2 by rw [eh4]; decide), if_pos eh4], rfl⟩)
          | (q + 4), hq => exact absurd hq (by omega)
        · refine Wx_tableOut 96 dX14_program_25 (sw_out (by decide) h4) (by decide) ?_
          refine Wx_iconst (v := (-1)) dX14_program_96 (by decide) ?_
          exact Wx_ireturn dX14_program_97 rfl rfl (⟨by rw [r_programM_95, if_neg h1, if_neg h2, if_pos h3, if_neg (show ¬ w = 0 from fun q => h4 0 (by decide) (q.trans (by decide))), if_neg (show ¬ w = 1 from fun q => h4 1 (by decide) (q.trans (by decide))), if_neg (show ¬ w = 2 from fun q => h4 2 (by decide) (q.trans (by decide))), if_neg (show ¬ w = 3 from fun q => h4 3 (by decide) (q.trans (by decide)))], rfl⟩)
      ·
        refine Wx_iconst (v := (-1)) dX14_program_22 (by decide) ?_
        exact Wx_ireturn dX14_program_23 rfl rfl (⟨by rw [r_programM_95, if_neg h1, if_neg h2, if_neg h3], rfl⟩)
def r_setM_95 (σ : Hp) (k : Int32) (w : Int32) : Int32 := (if (gI σ 66 35) = 0 then 0 else (if k < 0 then 0 else (if (gI σ 95 3) ≤ k then 0 else (if w < 0 then 0 else (if w ≤ 7 then (gA σ 100 (((8 * k) + w) : Int32).toNatClampNeg) else 0)))))
theorem w_setM_95 (d : Nat) (σ : Hp) (k : Int32) (w : Int32) (hR : Rf σ) (hC : gR σ 66 34 = some 95) (hb : (gI σ 95 3).toInt ≤ (128 : Nat)) : Cx yX14_set cX14_set 3 (some .int) (d) 122 122 [.ref 66, .int k, .int w] σ (fun o τ => o = .inl (some (.int (r_setM_95 σ k w))) ∧ τ = σ) := by
  refine Cx_of RX14 false (by decide) rfl (fun q => by cases q) (Nat.le_refl _) rfl (Nat.le_of_ble_eq_true rfl) ?_
  refine Wx_aload0 dX14_set_0 ?_
  refine Wx_getI 14 35 dX14_set_1 f_X14_535 rfl (Nat.le_of_ble_eq_true rfl) rfl ?_
  refine Wx_if_eq 32 dX14_set_4 (by decide) (fun h1 => ?_) (fun h1 => ?_)
  ·
    refine Wx_iconst (v := 0) dX14_set_32 (by decide) ?_
    refine Wx_goto 50 dX14_set_33 (by decide) ?_
    exact Wx_ireturn dX14_set_50 rfl rfl (⟨by rw [r_setM_95, if_pos h1], rfl⟩)
  ·
    refine Wx_iload1 dX14_set_7 ?_
    refine Wx_if_lt 32 dX14_set_8 (by decide) (fun h2 => ?_) (fun h2 => ?_)
    ·
      refine Wx_iconst (v := 0) dX14_set_32 (by decide) ?_
      refine Wx_goto 50 dX14_set_33 (by decide) ?_
      exact Wx_ireturn dX14_set_50 rfl rfl (⟨by rw [r_setM_95, if_neg h1, if_pos h2], rfl⟩)
    ·
      refine Wx_iload1 dX14_set_11 ?_
      refine Wx_aload0 dX14_set_12 ?_
      refine Wx_getR 14 34 95 dX14_set_13 f_X14_89 rfl (Nat.le_of_ble_eq_true rfl) rfl hC ?_
      refine Wx_getI 13 3 dX14_set_16 f_X14_380 rfl (Nat.le_of_ble_eq_true rfl) rfl ?_
      refine Wx_icmp_ge 32 dX14_set_19 (by decide) (fun h3 => ?_) (fun h3 => ?_)
      ·
        refine Wx_iconst (v := 0) dX14_set_32 (by decide) ?_
        refine Wx_goto 50 dX14_set_33 (by decide) ?_
        exact Wx_ireturn dX14_set_50 rfl rfl (⟨by rw [r_setM_95, if_neg h1, if_neg h2, if_pos h3], rfl⟩)
      ·
        refine Wx_iload2 dX14_set_22 ?_
        refine Wx_if_lt 32 dX14_set_23 (by decide) (fun h4 => ?_) (fun h4 => ?_)
        ·
          refine Wx_iconst (v := 0) dX14_set_32 (by decide) ?_
          refine Wx_goto 50 dX14_set_33 (by decide) ?_
          exact Wx_ireturn dX14_set_50 rfl rfl (⟨by rw [r_setM_95, if_neg h1, if_neg h2, if_neg h3, if_pos h4], rfl⟩)
        ·
          refine Wx_iload2 dX14_set_26 ?_
          refine Wx_bipush (v := 7) dX14_set_27 (by decide) ?_
          refine Wx_icmp_le 36 dX14_set_29 (by decide) (fun h5 => ?_) (fun h5 => ?_)
          ·
            refine Wx_aload0 dX14_set_36 ?_
            refine Wx_getR 14 34 95 dX14_set_37 f_X14_89 rfl (Nat.le_of_ble_eq_true rfl) rfl hC ?_
            refine Wx_getR 13 9 100 dX14_set_40 f_X14_382 rfl (Nat.le_of_ble_eq_true rfl) rfl (hR 95 9 100 (by decide)) ?_
            refine Wx_bipush (v := 8) dX14_set_43 (by decide) ?_
            refine Wx_iload1 dX14_set_45 ?_
            refine Wx_imul dX14_set_46 ?_
            refine Wx_iload2 dX14_set_47 ?_
            refine Wx_iadd dX14_set_48 ?_
            refine Wx_iaload 1032 dX14_set_49 rfl (Nat.le_of_ble_eq_true rfl) (vin_ab 8 7 128 rfl h2 h3 hb h4 (set_w h5) (by decide) (by decide) (by decide)) ?_
            exact Wx_ireturn dX14_set_50 rfl rfl (⟨by rw [r_setM_95, if_neg h1, if_neg h2, if_neg h3, if_neg h4, if_pos h5], rfl⟩)
          ·
            refine Wx_iconst (v := 0) dX14_set_32 (by decide) ?_
            refine Wx_goto 50 dX14_set_33 (by decide) ?_
            exact Wx_ireturn dX14_set_50 rfl rfl (⟨by rw [r_setM_95, if_neg h1, if_neg h2, if_neg h3, if_neg h4, if_neg h5], rfl⟩)
def r_imageM_95 (σ : Hp) (i : Int32) : Int32 := (if (gI σ 66 35) = 0 then (-1) else (if i < 0 then (-1) else (if i < (gI σ 95 4) then (((gA σ 101 (i : Int32).toNatClampNeg) : Int32) &&& 255) else (-1))))
theorem w_imageM_95 (d : Nat) (σ : Hp) (i : Int32) (hR : Rf σ) (hC : gR σ 66 34 = some 95) (hb : (gI σ 95 4).toInt ≤ (61440 : Nat)) : Cx yX14_image_ cX14_image_ 2 (some .int) (d) 122 122 [.ref 66, .int i] σ (fun o τ => o = .inl (some (.int (r_imageM_95 σ i))) ∧ τ = σ) := by
  refine Cx_of RX14 false (by decide) rfl (fun q => by cases q) (Nat.le_refl _) rfl (Nat.le_of_ble_eq_true rfl) ?_
  refine Wx_aload0 dX14_image__0 ?_
  refine Wx_getI 14 35 dX14_image__1 f_X14_535 rfl (Nat.le_of_ble_eq_true rfl) rfl ?_
  refine Wx_if_eq 22 dX14_image__4 (by decide) (fun h1 => ?_) (fun h1 => ?_)
  ·
    refine Wx_iconst (v := (-1)) dX14_image__22 (by decide) ?_
    refine Wx_goto 39 dX14_image__23 (by decide) ?_
    exact Wx_ireturn dX14_image__39 rfl rfl (⟨by rw [r_imageM_95, if_pos h1], rfl⟩)
  ·
    refine Wx_iload1 dX14_image__7 ?_
    refine Wx_if_lt 22 dX14_image__8 (by decide) (fun h2 => ?_) (fun h2 => ?_)
    ·
      refine Wx_iconst (v := (-1)) dX14_image__22 (by decide) ?_
      refine Wx_goto 39 dX14_image__23 (by decide) ?_
      exact Wx_ireturn dX14_image__39 rfl rfl (⟨by rw [r_imageM_95, if_neg h1, if_pos h2], rfl⟩)
    ·
      refine Wx_iload1 dX14_image__11 ?_
      refine Wx_aload0 dX14_image__12 ?_
      refine Wx_getR 14 34 95 dX14_image__13 f_X14_89 rfl (Nat.le_of_ble_eq_true rfl) rfl hC ?_
      refine Wx_getI 13 4 dX14_image__16 f_X14_507 rfl (Nat.le_of_ble_eq_true rfl) rfl ?_
      refine Wx_icmp_lt 26 dX14_image__19 (by decide) (fun h3 => ?_) (fun h3 => ?_)
      ·
        refine Wx_aload0 dX14_image__26 ?_
        refine Wx_getR 14 34 95 dX14_image__27 f_X14_89 rfl (Nat.le_of_ble_eq_true rfl) rfl hC ?_
        refine Wx_getR 13 10 101 dX14_image__30 f_X14_516 rfl (Nat.le_of_ble_eq_true rfl) rfl (hR 95 10 101 (by decide)) ?_
        refine Wx_iload1 dX14_image__33 ?_
        refine Wx_baload 61440 dX14_image__34 rfl (Nat.le_of_ble_eq_true rfl) (vin2 h2 h3 hb) ?_
        refine Wx_sipush (v := 255) dX14_image__35 (by decide) ?_
        refine Wx_iand dX14_image__38 ?_
        exact Wx_ireturn dX14_image__39 rfl rfl (⟨by rw [r_imageM_95, if_neg h1, if_neg h2, if_pos h3], rfl⟩)
      ·
        refine Wx_iconst (v := (-1)) dX14_image__22 (by decide) ?_
        refine Wx_goto 39 dX14_image__23 (by decide) ?_
        exact Wx_ireturn dX14_image__39 rfl rfl (⟨by rw [r_imageM_95, if_neg h1, if_neg h2, if_neg h3], rfl⟩)
theorem dX11_event_0 : decode cX11_event 0 = .ok (.iload_n 1, 1) := by decide +kernel
theorem dX11_event_1 : decode cX11_event 1 = .ok (.ifCond .lt 23, 3) := by decide +kernel
theorem dX11_event_4 : decode cX11_event 4 = .ok (.iload_n 1, 1) := by decide +kernel
theorem dX11_event_5 : decode cX11_event 5 = .ok (.aload_n 0, 1) := by decide +kernel
theorem dX11_event_6 : decode cX11_event 6 = .ok (.getfield 97, 3) := by decide +kernel
theorem dX11_event_9 : decode cX11_event 9 = .ok (.getfield 218, 3) := by decide +kernel
theorem dX11_event_12 : decode cX11_event 12 = .ok (.if_icmp .ge 12, 3) := by decide +kernel
theorem dX11_event_15 : decode cX11_event 15 = .ok (.iload_n 2, 1) := by decide +kernel
theorem dX11_event_16 : decode cX11_event 16 = .ok (.ifCond .lt 8, 3) := by decide +kernel
theorem dX11_event_19 : decode cX11_event 19 = .ok (.iload_n 2, 1) := by decide +kernel
theorem dX11_event_20 : decode cX11_event 20 = .ok (.iconst 2, 1) := by decide +kernel
theorem dX11_event_21 : decode cX11_event 21 = .ok (.if_icmp .le 5, 3) := by decide +kernel
theorem dX11_event_24 : decode cX11_event 24 = .ok (.iconst (-1), 1) := by decide +kernel
theorem dX11_event_25 : decode cX11_event 25 = .ok (.ireturn, 1) := by decide +kernel
theorem dX11_event_26 : decode cX11_event 26 = .ok (.iload_n 2, 1) := by decide +kernel
theorem dX11_event_27 : decode cX11_event 27 = .ok (.iconst 2, 1) := by decide +kernel
theorem dX11_event_28 : decode cX11_event 28 = .ok (.if_icmp .ne 13, 3) := by decide +kernel
theorem dX11_event_31 : decode cX11_event 31 = .ok (.aload_n 0, 1) := by decide +kernel
theorem dX11_event_32 : decode cX11_event 32 = .ok (.getfield 97, 3) := by decide +kernel
theorem dX11_event_35 : decode cX11_event 35 = .ok (.getfield 221, 3) := by decide +kernel
theorem dX11_event_38 : decode cX11_event 38 = .ok (.iload_n 1, 1) := by decide +kernel
theorem dX11_event_39 : decode cX11_event 39 = .ok (.iaload, 1) := by decide +kernel
theorem dX11_event_40 : decode cX11_event 40 = .ok (.ireturn, 1) := by decide +kernel
theorem dX11_event_41 : decode cX11_event 41 = .ok (.iload_n 2, 1) := by decide +kernel
theorem dX11_event_42 : decode cX11_event 42 = .ok (.ifCond .ne 17, 3) := by decide +kernel
theorem dX11_event_45 : decode cX11_event 45 = .ok (.aload_n 0, 1) := by decide +kernel
theorem dX11_event_46 : decode cX11_event 46 = .ok (.getfield 97, 3) := by decide +kernel
theorem dX11_event_49 : decode cX11_event 49 = .ok (.getfield 224, 3) := by decide +kernel
theorem dX11_event_52 : decode cX11_event 52 = .ok (.iload_n 1, 1) := by decide +kernel
theorem dX11_event_53 : decode cX11_event 53 = .ok (.iaload, 1) := by decide +kernel
theorem dX11_event_54 : decode cX11_event 54 = .ok (.iconst 1, 1) := by decide +kernel
theorem dX11_event_55 : decode cX11_event 55 = .ok (.ishr, 1) := by decide +kernel
theorem dX11_event_56 : decode cX11_event 56 = .ok (.goto 14, 3) := by decide +kernel
theorem dX11_event_59 : decode cX11_event 59 = .ok (.aload_n 0, 1) := by decide +kernel
theorem dX11_event_60 : decode cX11_event 60 = .ok (.getfield 97, 3) := by decide +kernel
theorem dX11_event_63 : decode cX11_event 63 = .ok (.getfield 224, 3) := by decide +kernel
theorem dX11_event_66 : decode cX11_event 66 = .ok (.iload_n 1, 1) := by decide +kernel
theorem dX11_event_67 : decode cX11_event 67 = .ok (.iaload, 1) := by decide +kernel
theorem dX11_event_68 : decode cX11_event 68 = .ok (.iconst 1, 1) := by decide +kernel
theorem dX11_event_69 : decode cX11_event 69 = .ok (.iand, 1) := by decide +kernel
theorem dX11_event_70 : decode cX11_event 70 = .ok (.ireturn, 1) := by decide +kernel
def r_event (σ : Hp) (i : Int32) (w : Int32) : Int32 := (if i < 0 then (-1) else (if (gI σ 63 2) ≤ i then (-1) else (if w < 0 then (-1) else (if w ≤ 2 then (if ¬ w = 2 then (if ¬ w = 0 then (((gA σ 64 (i : Int32).toNatClampNeg) : Int32) &&& 1) else (((gA σ 64 (i : Int32).toNatClampNeg) : Int32) >>> ((1 : Int32) &&& 31))) else (gA σ 65 (i : Int32).toNatClampNeg)) else (-1)))))
theorem w_event (d : Nat) (σ : Hp) (i : Int32) (w : Int32) (hR : Rf σ) (hb : (gI σ 63 2).toInt ≤ (1000 : Nat)) : Cx yX11_event cX11_event 3 (some .int) (d) 122 122 [.ref 0, .int i, .int w] σ (fun o τ => o = .inl (some (.int (r_event σ i w))) ∧ τ = σ) := by
  refine Cx_of RX11 false (by decide) rfl (fun q => by cases q) (Nat.le_refl _) rfl (Nat.le_of_ble_eq_true rfl) ?_
  refine Wx_iload1 dX11_event_0 ?_
  refine Wx_if_lt 24 dX11_event_1 (by decide) (fun h1 => ?_) (fun h1 => ?_)
  ·
    refine Wx_iconst (v := (-1)) dX11_event_24 (by decide) ?_
    exact Wx_ireturn dX11_event_25 rfl rfl (⟨by rw [r_event, if_pos h1], rfl⟩)
  ·
    refine Wx_iload1 dX11_event_4 ?_
    refine Wx_aload0 dX11_event_5 ?_
    refine Wx_getR 11 15 63 dX11_event_6 f_X11_97 rfl (Nat.le_of_ble_eq_true rfl) rfl (hR 0 15 63 (by decide)) ?_
    refine Wx_getI 6 2 dX11_event_9 f_X11_218 rfl (Nat.le_of_ble_eq_true rfl) rfl ?_
    refine Wx_icmp_ge 24 dX11_event_12 (by decide) (fun h2 => ?_) (fun h2 => ?_)
    ·
      refine Wx_iconst (v := (-1)) dX11_event_24 (by decide) ?_
      exact Wx_ireturn dX11_event_25 rfl rfl (⟨by rw [r_event, if_neg h1, if_pos h2], rfl⟩)
    ·
      refine Wx_iload2 dX11_event_15 ?_
      refine Wx_if_lt 24 dX11_event_16 (by decide) (fun h3 => ?_) (fun h3 => ?_)
      ·
        refine Wx_iconst (v := (-1)) dX11_event_24 (by decide) ?_
        exact Wx_ireturn dX11_event_25 rfl rfl (⟨by rw [r_event, if_neg h1, if_neg h2, if_pos h3], rfl⟩)
      ·
        refine Wx_iload2 dX11_event_19 ?_
        refine Wx_iconst (v := 2) dX11_event_20 (by decide) ?_
        refine Wx_icmp_le 26 dX11_event_21 (by decide) (fun h4 => ?_) (fun h4 => ?_)
        ·
          refine Wx_iload2 dX11_event_26 ?_
          refine Wx_iconst (v := 2) dX11_event_27 (by decide) ?_
          refine Wx_icmp_ne 41 dX11_event_28 (by decide) (fun h5 => ?_) (fun h5 => ?_)
          ·
            refine Wx_iload2 dX11_event_41 ?_
            refine Wx_if_ne 59 dX11_event_42 (by decide) (fun h6 => ?_) (fun h6 => ?_)
            ·
              refine Wx_aload0 dX11_event_59 ?_
              refine Wx_getR 11 15 63 dX11_event_60 f_X11_97 rfl (Nat.le_of_ble_eq_true rfl) rfl (hR 0 15 63 (by decide)) ?_
              refine Wx_getR 6 0 64 dX11_event_63 f_X11_224 rfl (Nat.le_of_ble_eq_true rfl) rfl (hR 63 0 64 (by decide)) ?_
              refine Wx_iload1 dX11_event_66 ?_
              refine Wx_iaload 1000 dX11_event_67 rfl (Nat.le_of_ble_eq_true rfl) (vin1 h1 h2 hb) ?_
              refine Wx_iconst (v := 1) dX11_event_68 (by decide) ?_
              refine Wx_iand dX11_event_69 ?_
              exact Wx_ireturn dX11_event_70 rfl rfl (⟨by rw [r_event, if_neg h1, if_neg h2, if_neg h3, if_pos h4, if_pos h5, if_pos h6], rfl⟩)
            ·
              refine Wx_aload0 dX11_event_45 ?_
              refine Wx_getR 11 15 63 dX11_event_46 f_X11_97 rfl (Nat.le_of_ble_eq_true rfl) rfl (hR 0 15 63 (by decide)) ?_
              refine Wx_getR 6 0 64 dX11_event_49 f_X11_224 rfl (Nat.le_of_ble_eq_true rfl) rfl (hR 63 0 64 (by decide)) ?_
              refine Wx_iload1 dX11_event_52 ?_
              refine Wx_iaload 1000 dX11_event_53 rfl (Nat.le_of_ble_eq_true rfl) (vin1 h1 h2 hb) ?_
              refine Wx_iconst (v := 1) dX11_event_54 (by decide) ?_
              refine Wx_ishr dX11_event_55 ?_
              refine Wx_goto 70 dX11_event_56 (by decide) ?_
              exact Wx_ireturn dX11_event_70 rfl rfl (⟨by rw [r_event, if_neg h1, if_neg h2, if_neg h3, if_pos h4, if_pos h5, if_neg h6], rfl⟩)
          ·
            refine Wx_aload0 dX11_event_31 ?_
            refine Wx_getR 11 15 63 dX11_event_32 f_X11_97 rfl (Nat.le_of_ble_eq_true rfl) rfl (hR 0 15 63 (by decide)) ?_
            refine Wx_getR 6 1 65 dX11_event_35 f_X11_221 rfl (Nat.le_of_ble_eq_true rfl) rfl (hR 63 1 65 (by decide)) ?_
            refine Wx_iload1 dX11_event_38 ?_
            refine Wx_iaload 1000 dX11_event_39 rfl (Nat.le_of_ble_eq_true rfl) (vin1 h1 h2 hb) ?_
            exact Wx_ireturn dX11_event_40 rfl rfl (⟨by rw [r_event, if_neg h1, if_neg h2, if_neg h3, if_pos h4, if_neg h5], rfl⟩)
        ·
          refine Wx_iconst (v := (-1)) dX11_event_24 (by decide) ?_
          exact Wx_ireturn dX11_event_25 rfl rfl (⟨by rw [r_event, if_neg h1, if_neg h2, if_neg h3, if_neg h4], rfl⟩)
theorem dX14_event_0 : decode cX14_event 0 = .ok (.aload_n 0, 1) := by decide +kernel
theorem dX14_event_1 : decode cX14_event 1 = .ok (.getfield 155, 3) := by decide +kernel
theorem dX14_event_4 : decode cX14_event 4 = .ok (.ifCond .lt 15, 3) := by decide +kernel
theorem dX14_event_7 : decode cX14_event 7 = .ok (.iload_n 1, 1) := by decide +kernel
theorem dX14_event_8 : decode cX14_event 8 = .ok (.ifCond .lt 11, 3) := by decide +kernel
theorem dX14_event_11 : decode cX14_event 11 = .ok (.iload_n 1, 1) := by decide +kernel
theorem dX14_event_12 : decode cX14_event 12 = .ok (.aload_n 0, 1) := by decide +kernel
theorem dX14_event_13 : decode cX14_event 13 = .ok (.getfield 796, 3) := by decide +kernel
theorem dX14_event_16 : decode cX14_event 16 = .ok (.if_icmp .lt 5, 3) := by decide +kernel
theorem dX14_event_19 : decode cX14_event 19 = .ok (.iconst (-1), 1) := by decide +kernel
theorem dX14_event_20 : decode cX14_event 20 = .ok (.ireturn, 1) := by decide +kernel
theorem dX14_event_21 : decode cX14_event 21 = .ok (.iload_n 2, 1) := by decide +kernel
theorem dX14_event_22 : decode cX14_event 22 = .ok (.ifCond .ne 14, 3) := by decide +kernel
theorem dX14_event_25 : decode cX14_event 25 = .ok (.aload_n 0, 1) := by decide +kernel
theorem dX14_event_26 : decode cX14_event 26 = .ok (.getfield 149, 3) := by decide +kernel
theorem dX14_event_29 : decode cX14_event 29 = .ok (.iload_n 1, 1) := by decide +kernel
theorem dX14_event_30 : decode cX14_event 30 = .ok (.iaload, 1) := by decide +kernel
theorem dX14_event_31 : decode cX14_event 31 = .ok (.iconst 2, 1) := by decide +kernel
theorem dX14_event_32 : decode cX14_event 32 = .ok (.idiv, 1) := by decide +kernel
theorem dX14_event_33 : decode cX14_event 33 = .ok (.goto 34, 3) := by decide +kernel
theorem dX14_event_36 : decode cX14_event 36 = .ok (.iload_n 2, 1) := by decide +kernel
theorem dX14_event_37 : decode cX14_event 37 = .ok (.iconst 1, 1) := by decide +kernel
theorem dX14_event_38 : decode cX14_event 38 = .ok (.if_icmp .ne 14, 3) := by decide +kernel
theorem dX14_event_41 : decode cX14_event 41 = .ok (.aload_n 0, 1) := by decide +kernel
theorem dX14_event_42 : decode cX14_event 42 = .ok (.getfield 149, 3) := by decide +kernel
theorem dX14_event_45 : decode cX14_event 45 = .ok (.iload_n 1, 1) := by decide +kernel
theorem dX14_event_46 : decode cX14_event 46 = .ok (.iaload, 1) := by decide +kernel
theorem dX14_event_47 : decode cX14_event 47 = .ok (.iconst 2, 1) := by decide +kernel
theorem dX14_event_48 : decode cX14_event 48 = .ok (.irem, 1) := by decide +kernel
theorem dX14_event_49 : decode cX14_event 49 = .ok (.goto 18, 3) := by decide +kernel
theorem dX14_event_52 : decode cX14_event 52 = .ok (.iload_n 2, 1) := by decide +kernel
theorem dX14_event_53 : decode cX14_event 53 = .ok (.iconst 2, 1) := by decide +kernel
theorem dX14_event_54 : decode cX14_event 54 = .ok (.if_icmp .ne 12, 3) := by decide +kernel
theorem dX14_event_57 : decode cX14_event 57 = .ok (.aload_n 0, 1) := by decide +kernel
theorem dX14_event_58 : decode cX14_event 58 = .ok (.getfield 152, 3) := by decide +kernel
theorem dX14_event_61 : decode cX14_event 61 = .ok (.iload_n 1, 1) := by decide +kernel
theorem dX14_event_62 : decode cX14_event 62 = .ok (.iaload, 1) := by decide +kernel
theorem dX14_event_63 : decode cX14_event 63 = .ok (.goto 4, 3) := by decide +kernel
theorem dX14_event_66 : decode cX14_event 66 = .ok (.iconst (-1), 1) := by decide +kernel
theorem dX14_event_67 : decode cX14_event 67 = .ok (.ireturn, 1) := by decide +kernel
def r_eventM (σ : Hp) (i : Int32) (w : Int32) : Int32 := (if (gI σ 66 90) < 0 then (-1) else (if i < 0 then (-1) else (if i < (gI σ 66 87) then (if ¬ w = 0 then (if ¬ w = 1 then (if ¬ w = 2 then (-1) else (gA σ 121 (i : Int32).toNatClampNeg)) else ((gA σ 120 (i : Int32).toNatClampNeg) - (gA σ 120 (i : Int32).toNatClampNeg) / 2 * 2)) else ((gA σ 120 (i : Int32).toNatClampNeg) / 2)) else (-1))))
theorem w_eventM (d : Nat) (σ : Hp) (i : Int32) (w : Int32) (hR : Rf σ) (hb : (gI σ 66 87).toInt ≤ (1002 : Nat)) : Cx yX14_event cX14_event 3 (some .int) (d) 122 122 [.ref 66, .int i, .int w] σ (fun o τ => o = .inl (some (.int (r_eventM σ i w))) ∧ τ = σ) := by
  refine Cx_of RX14 false (by decide) rfl (fun q => by cases q) (Nat.le_refl _) rfl (Nat.le_of_ble_eq_true rfl) ?_
  refine Wx_aload0 dX14_event_0 ?_
  refine Wx_getI 14 90 dX14_event_1 f_X14_155 rfl (Nat.le_of_ble_eq_true rfl) rfl ?_
  refine Wx_if_lt 19 dX14_event_4 (by decide) (fun h1 => ?_) (fun h1 => ?_)
  ·
    refine Wx_iconst (v := (-1)) dX14_event_19 (by decide) ?_
    exact Wx_ireturn dX14_event_20 rfl rfl (⟨by rw [r_eventM, if_pos h1], rfl⟩)
  ·
    refine Wx_iload1 dX14_event_7 ?_
    refine Wx_if_lt 19 dX14_event_8 (by decide) (fun h2 => ?_) (fun h2 => ?_)
    ·
      refine Wx_iconst (v := (-1)) dX14_event_19 (by decide) ?_
      exact Wx_ireturn dX14_event_20 rfl rfl (⟨by rw [r_eventM, if_neg h1, if_pos h2], rfl⟩)
    ·
      refine Wx_iload1 dX14_event_11 ?_
      refine Wx_aload0 dX14_event_12 ?_
      refine Wx_getI 14 87 dX14_event_13 f_X14_796 rfl (Nat.le_of_ble_eq_true rfl) rfl ?_
      refine Wx_icmp_lt 21 dX14_event_16 (by decide) (fun h3 => ?_) (fun h3 => ?_)
      ·
        refine Wx_iload2 dX14_event_21 ?_
        refine Wx_if_ne 36 dX14_event_22 (by decide) (fun h4 => ?_) (fun h4 => ?_)
        ·
          refine Wx_iload2 dX14_event_36 ?_
          refine Wx_iconst (v := 1) dX14_event_37 (by decide) ?_
          refine Wx_icmp_ne 52 dX14_event_38 (by decide) (fun h5 => ?_) (fun h5 => ?_)
          ·
            refine Wx_iload2 dX14_event_52 ?_
            refine Wx_iconst (v := 2) dX14_event_53 (by decide) ?_
            refine Wx_icmp_ne 66 dX14_event_54 (by decide) (fun h6 => ?_) (fun h6 => ?_)
            ·
              refine Wx_iconst (v := (-1)) dX14_event_66 (by decide) ?_
              exact Wx_ireturn dX14_event_67 rfl rfl (⟨by rw [r_eventM, if_neg h1, if_neg h2, if_pos h3, if_pos h4, if_pos h5, if_pos h6], rfl⟩)
            ·
              refine Wx_aload0 dX14_event_57 ?_
              refine Wx_getR 14 85 121 dX14_event_58 f_X14_152 rfl (Nat.le_of_ble_eq_true rfl) rfl (hR 66 85 121 (by decide)) ?_
              refine Wx_iload1 dX14_event_61 ?_
              refine Wx_iaload 1002 dX14_event_62 rfl (Nat.le_of_ble_eq_true rfl) (vin2 h2 h3 hb) ?_
              refine Wx_goto 67 dX14_event_63 (by decide) ?_
              exact Wx_ireturn dX14_event_67 rfl rfl (⟨by rw [r_eventM, if_neg h1, if_neg h2, if_pos h3, if_pos h4, if_pos h5, if_neg h6], rfl⟩)
          ·
            refine Wx_aload0 dX14_event_41 ?_
            refine Wx_getR 14 84 120 dX14_event_42 f_X14_149 rfl (Nat.le_of_ble_eq_true rfl) rfl (hR 66 84 120 (by decide)) ?_
            refine Wx_iload1 dX14_event_45 ?_
            refine Wx_iaload 1002 dX14_event_46 rfl (Nat.le_of_ble_eq_true rfl) (vin2 h2 h3 hb) ?_
            refine Wx_iconst (v := 2) dX14_event_47 (by decide) ?_
            refine Wx_irem dX14_event_48 (by decide) ?_
            refine Wx_goto 67 dX14_event_49 (by decide) ?_
            exact Wx_ireturn dX14_event_67 rfl rfl (⟨by rw [r_eventM, if_neg h1, if_neg h2, if_pos h3, if_pos h4, if_neg h5], rfl⟩)
        ·
          refine Wx_aload0 dX14_event_25 ?_
          refine Wx_getR 14 84 120 dX14_event_26 f_X14_149 rfl (Nat.le_of_ble_eq_true rfl) rfl (hR 66 84 120 (by decide)) ?_
          refine Wx_iload1 dX14_event_29 ?_
          refine Wx_iaload 1002 dX14_event_30 rfl (Nat.le_of_ble_eq_true rfl) (vin2 h2 h3 hb) ?_
          refine Wx_iconst (v := 2) dX14_event_31 (by decide) ?_
          refine Wx_idiv dX14_event_32 (by decide) ?_
          refine Wx_goto 67 dX14_event_33 (by decide) ?_
          exact Wx_ireturn dX14_event_67 rfl rfl (⟨by rw [r_eventM, if_neg h1, if_neg h2, if_pos h3, if_neg h4], rfl⟩)
      ·
        refine Wx_iconst (v := (-1)) dX14_event_19 (by decide) ?_
        exact Wx_ireturn dX14_event_20 rfl rfl (⟨by rw [r_eventM, if_neg h1, if_neg h2, if_neg h3], rfl⟩)
theorem dX11_get_0 : decode cX11_get 0 = .ok (.iload_n 1, 1) := by decide +kernel
theorem dX11_get_1 : decode cX11_get 1 = .ok (.ifCond .lt 19, 3) := by decide +kernel
theorem dX11_get_4 : decode cX11_get 4 = .ok (.iload_n 1, 1) := by decide +kernel
theorem dX11_get_5 : decode cX11_get 5 = .ok (.bipush 8, 2) := by decide +kernel
theorem dX11_get_7 : decode cX11_get 7 = .ok (.if_icmp .ge 13, 3) := by decide +kernel
theorem dX11_get_10 : decode cX11_get 10 = .ok (.aload_n 0, 1) := by decide +kernel
theorem dX11_get_11 : decode cX11_get 11 = .ok (.getfield 83, 3) := by decide +kernel
theorem dX11_get_14 : decode cX11_get 14 = .ok (.getfield 242, 3) := by decide +kernel
theorem dX11_get_17 : decode cX11_get 17 = .ok (.iload_n 1, 1) := by decide +kernel
theorem dX11_get_18 : decode cX11_get 18 = .ok (.iaload, 1) := by decide +kernel
theorem dX11_get_19 : decode cX11_get 19 = .ok (.ireturn, 1) := by decide +kernel
theorem dX11_get_20 : decode cX11_get 20 = .ok (.iload_n 1, 1) := by decide +kernel
theorem dX11_get_21 : decode cX11_get 21 = .ok (.tableswitch 54 8 10 #[27, 38, 46], 27) := by decide +kernel
theorem dX11_get_48 : decode cX11_get 48 = .ok (.aload_n 0, 1) := by decide +kernel
theorem dX11_get_49 : decode cX11_get 49 = .ok (.getfield 83, 3) := by decide +kernel
theorem dX11_get_52 : decode cX11_get 52 = .ok (.getfield 245, 3) := by decide +kernel
theorem dX11_get_55 : decode cX11_get 55 = .ok (.getfield 249, 3) := by decide +kernel
theorem dX11_get_58 : decode cX11_get 58 = .ok (.ireturn, 1) := by decide +kernel
theorem dX11_get_59 : decode cX11_get 59 = .ok (.aload_n 0, 1) := by decide +kernel
theorem dX11_get_60 : decode cX11_get 60 = .ok (.getfield 83, 3) := by decide +kernel
theorem dX11_get_63 : decode cX11_get 63 = .ok (.getfield 254, 3) := by decide +kernel
theorem dX11_get_66 : decode cX11_get 66 = .ok (.ireturn, 1) := by decide +kernel
theorem dX11_get_67 : decode cX11_get 67 = .ok (.aload_n 0, 1) := by decide +kernel
theorem dX11_get_68 : decode cX11_get 68 = .ok (.getfield 83, 3) := by decide +kernel
theorem dX11_get_71 : decode cX11_get 71 = .ok (.getfield 257, 3) := by decide +kernel
theorem dX11_get_74 : decode cX11_get 74 = .ok (.ireturn, 1) := by decide +kernel
theorem dX11_get_75 : decode cX11_get 75 = .ok (.iconst 0, 1) := by decide +kernel
theorem dX11_get_76 : decode cX11_get 76 = .ok (.ireturn, 1) := by decide +kernel
def r_get (σ : Hp) (w : Int32) : Int32 := (if w < 0 then (if w = 8 then (gI σ 52 0) else (if w = 9 then (gI σ 50 5) else (if w = 10 then (gI σ 50 6) else 0))) else (if 8 ≤ w then (if w = 8 then (gI σ 52 0) else (if w = 9 then (gI σ 50 5) else (if w = 10 then (gI σ 50 6) else 0))) else (gA σ 51 (w : Int32).toNatClampNeg)))
theorem w_get (d : Nat) (σ : Hp) (w : Int32) (hR : Rf σ) : Cx yX11_get cX11_get 2 (some .int) (d) 122 122 [.ref 0, .int w] σ (fun o τ => o = .inl (some (.int (r_get σ w))) ∧ τ = σ) := by
  refine Cx_of RX11 false (by decide) rfl (fun q => by cases q) (Nat.le_refl _) rfl (Nat.le_of_ble_eq_true rfl) ?_
  refine Wx_iload1 dX11_get_0 ?_
  refine Wx_if_lt 20 dX11_get_1 (by decide) (fun h1 => ?_) (fun h1 => ?_)
  ·
    refine Wx_iload1 dX11_get_20 ?_
    rcases sw_cases (w) 8 3 (by decide) (by decide) with ⟨kh2, hkh2, h2⟩ | h2
    · match kh2, hkh2 with
      | 0, _ =>
        have eh2 : w = 8 := h2.trans (by decide)
        refine Wx_tableIn 48 dX11_get_21 (by rw [eh2]; decide) (by rw [eh2]; decide) (by rw [eh2]; rfl) (by decide) ?_
        refine Wx_aload0 dX11_get_48 ?_
        refine Wx_getR 11 13 50 dX11_get_49 f_X11_83 rfl (Nat.le_of_ble_eq_true rfl) rfl (hR 0 13 50 (by decide)) ?_
        refine Wx_getR 7 1 52 dX11_get_52 f_X11_245 rfl (Nat.le_of_ble_eq_true rfl) rfl (hR 50 1 52 (by decide)) ?_
        refine Wx_getI 0 0 dX11_get_55 f_X11_249 rfl (Nat.le_of_ble_eq_true rfl) rfl ?_
        exact Wx_ireturn dX11_get_58 rfl rfl (⟨by rw [r_get, if_pos h1, if_pos eh2], rfl⟩)
      | 1, _ =>
        have eh2 : w = 9 := h2.trans (by decide)
        refine Wx_tableIn 59 dX11_get_21 (by rw [eh2]; decide) (by rw [eh2]; decide) (by rw [eh2]; rfl) (by decide) ?_
        refine Wx_aload0 dX11_get_59 ?_
        refine Wx_getR 11 13 50 dX11_get_60 f_X11_83 rfl (Nat.le_of_ble_eq_true rfl) rfl (hR 0 13 50 (by decide)) ?_
        refine Wx_getI 7 5 dX11_get_63 f_X11_254 rfl (Nat.le_of_ble_eq_true rfl) rfl ?_
        exact Wx_ireturn dX11_get_66 rfl rfl (⟨by rw [r_get, if_pos h1, if_neg (show ¬ w = 8 by rw [eh2]; decide), if_pos eh2], rfl⟩)
      | 2, _ =>
        have eh2 : w = 10 := h2.trans (by decide)
        refine Wx_tableIn 67 dX11_get_21 (by rw [eh2]; decide) (by rw [eh2]; decide) (by rw [eh2]; rfl) (by decide) ?_
        refine Wx_aload0 dX11_get_67 ?_
        refine Wx_getR 11 13 50 dX11_get_68 f_X11_83 rfl (Nat.le_of_ble_eq_true rfl) rfl (hR 0 13 50 (by decide)) ?_
        refine Wx_getI 7 6 dX11_get_71 f_X11_257 rfl (Nat.le_of_ble_eq_true rfl) rfl ?_
        exact Wx_ireturn dX11_get_74 rfl rfl (⟨by rw [r_get, if_pos h1, if_neg (show ¬ w = 8 by rw [eh2]; decide), if_neg (show ¬ w = 9 by rw [eh2]; decide), if_pos eh2], rfl⟩)
      | (q + 3), hq => exact absurd hq (by omega)
    · refine Wx_tableOut 75 dX11_get_21 (sw_out (by decide) h2) (by decide) ?_
      refine Wx_iconst (v := 0) dX11_get_75 (by decide) ?_
      exact Wx_ireturn dX11_get_76 rfl rfl (⟨by rw [r_get, if_pos h1, if_neg (show ¬ w = 8 from fun q => h2 0 (by decide) (q.trans (by decide))), if_neg (show ¬ w = 9 from fun q => h2 1 (by decide) (q.trans (by decide))), if_neg (show ¬ w = 10 from fun q => h2 2 (by decide) (q.trans (by decide)))], rfl⟩)
  ·
    refine Wx_iload1 dX11_get_4 ?_
    refine Wx_bipush (v := 8) dX11_get_5 (by decide) ?_
    refine Wx_icmp_ge 20 dX11_get_7 (by decide) (fun h3 => ?_) (fun h3 => ?_)
    ·
      refine Wx_iload1 dX11_get_20 ?_
      rcases sw_cases (w) 8 3 (by decide) (by decide) with ⟨kh4, hkh4, h4⟩ | h4
      · match kh4, hkh4 with
        | 0, _ =>
          have eh4 : w = 8 := h4.trans (by decide)
          refine Wx_tableIn 48 dX11_get_21 (by rw [eh4]; decide) (by rw [eh4]; decide) (by rw [eh4]; rfl) (by decide) ?_
          refine Wx_aload0 dX11_get_48 ?_
          refine Wx_getR 11 13 50 dX11_get_49 f_X11_83 rfl (Nat.le_of_ble_eq_true rfl) rfl (hR 0 13 50 (by decide)) ?_
          refine Wx_getR 7 1 52 dX11_get_52 f_X11_245 rfl (Nat.le_of_ble_eq_true rfl) rfl (hR 50 1 52 (by decide)) ?_
          refine Wx_getI 0 0 dX11_get_55 f_X11_249 rfl (Nat.le_of_ble_eq_true rfl) rfl ?_
          exact Wx_ireturn dX11_get_58 rfl rfl (⟨by rw [r_get, if_neg h1, if_pos h3, if_pos eh4], rfl⟩)
        | 1, _ =>
          have eh4 : w = 9 := h4.trans (by decide)
          refine Wx_tableIn 59 dX11_get_21 (by rw [eh4]; decide) (by rw [eh4]; decide) (by rw [eh4]; rfl) (by decide) ?_
          refine Wx_aload0 dX11_get_59 ?_
          refine Wx_getR 11 13 50 dX11_get_60 f_X11_83 rfl (Nat.le_of_ble_eq_true rfl) rfl (hR 0 13 50 (by decide)) ?_
          refine Wx_getI 7 5 dX11_get_63 f_X11_254 rfl (Nat.le_of_ble_eq_true rfl) rfl ?_
          exact Wx_ireturn dX11_get_66 rfl rfl (⟨by rw [r_get, if_neg h1, if_pos h3, if_neg (show ¬ w = 8 by rw [eh4]; decide), if_pos eh4], rfl⟩)
        | 2, _ =>
          have eh4 : w = 10 := h4.trans (by decide)
          refine Wx_tableIn 67 dX11_get_21 (by rw [eh4]; decide) (by rw [eh4]; decide) (by rw [eh4]; rfl) (by decide) ?_
          refine Wx_aload0 dX11_get_67 ?_
          refine Wx_getR 11 13 50 dX11_get_68 f_X11_83 rfl (Nat.le_of_ble_eq_true rfl) rfl (hR 0 13 50 (by decide)) ?_
          refine Wx_getI 7 6 dX11_get_71 f_X11_257 rfl (Nat.le_of_ble_eq_true rfl) rfl ?_
          exact Wx_ireturn dX11_get_74 rfl rfl (⟨by rw [r_get, if_neg h1, if_pos h3, if_neg (show ¬ w = 8 by rw [eh4]; decide), if_neg (show ¬ w = 9 by rw [eh4]; decide), if_pos eh4], rfl⟩)
        | (q + 3), hq => exact absurd hq (by omega)
      · refine Wx_tableOut 75 dX11_get_21 (sw_out (by decide) h4) (by decide) ?_
        refine Wx_iconst (v := 0) dX11_get_75 (by decide) ?_
        exact Wx_ireturn dX11_get_76 rfl rfl (⟨by rw [r_get, if_neg h1, if_pos h3, if_neg (show ¬ w = 8 from fun q => h4 0 (by decide) (q.trans (by decide))), if_neg (show ¬ w = 9 from fun q => h4 1 (by decide) (q.trans (by decide))), if_neg (show ¬ w = 10 from fun q => h4 2 (by decide) (q.trans (by decide)))], rfl⟩)
    ·
      refine Wx_aload0 dX11_get_10 ?_
      refine Wx_getR 11 13 50 dX11_get_11 f_X11_83 rfl (Nat.le_of_ble_eq_true rfl) rfl (hR 0 13 50 (by decide)) ?_
      refine Wx_getR 7 0 51 dX11_get_14 f_X11_242 rfl (Nat.le_of_ble_eq_true rfl) rfl (hR 50 0 51 (by decide)) ?_
      refine Wx_iload1 dX11_get_17 ?_
      refine Wx_iaload 8 dX11_get_18 rfl (Nat.le_of_ble_eq_true rfl) (vin1 h1 h3 (by decide)) ?_
      exact Wx_ireturn dX11_get_19 rfl rfl (⟨by rw [r_get, if_neg h1, if_neg h3], rfl⟩)
theorem dX14_get_0 : decode cX14_get 0 = .ok (.iload_n 1, 1) := by decide +kernel
theorem dX14_get_1 : decode cX14_get 1 = .ok (.ifCond .ge 7, 3) := by decide +kernel
theorem dX14_get_4 : decode cX14_get 4 = .ok (.iconst 0, 1) := by decide +kernel
theorem dX14_get_5 : decode cX14_get 5 = .ok (.goto 58, 3) := by decide +kernel
theorem dX14_get_8 : decode cX14_get 8 = .ok (.iload_n 1, 1) := by decide +kernel
theorem dX14_get_9 : decode cX14_get 9 = .ok (.bipush 8, 2) := by decide +kernel
theorem dX14_get_11 : decode cX14_get 11 = .ok (.if_icmp .ge 12, 3) := by decide +kernel
theorem dX14_get_14 : decode cX14_get 14 = .ok (.aload_n 0, 1) := by decide +kernel
theorem dX14_get_15 : decode cX14_get 15 = .ok (.getfield 125, 3) := by decide +kernel
theorem dX14_get_18 : decode cX14_get 18 = .ok (.iload_n 1, 1) := by decide +kernel
theorem dX14_get_19 : decode cX14_get 19 = .ok (.iaload, 1) := by decide +kernel
theorem dX14_get_20 : decode cX14_get 20 = .ok (.goto 43, 3) := by decide +kernel
theorem dX14_get_23 : decode cX14_get 23 = .ok (.iload_n 1, 1) := by decide +kernel
theorem dX14_get_24 : decode cX14_get 24 = .ok (.bipush 8, 2) := by decide +kernel
theorem dX14_get_26 : decode cX14_get 26 = .ok (.if_icmp .ne 10, 3) := by decide +kernel
theorem dX14_get_29 : decode cX14_get 29 = .ok (.aload_n 0, 1) := by decide +kernel
theorem dX14_get_30 : decode cX14_get 30 = .ok (.getfield 651, 3) := by decide +kernel
theorem dX14_get_33 : decode cX14_get 33 = .ok (.goto 30, 3) := by decide +kernel
theorem dX14_get_36 : decode cX14_get 36 = .ok (.iload_n 1, 1) := by decide +kernel
theorem dX14_get_37 : decode cX14_get 37 = .ok (.bipush 9, 2) := by decide +kernel
theorem dX14_get_39 : decode cX14_get 39 = .ok (.if_icmp .ne 10, 3) := by decide +kernel
theorem dX14_get_42 : decode cX14_get 42 = .ok (.aload_n 0, 1) := by decide +kernel
theorem dX14_get_43 : decode cX14_get 43 = .ok (.getfield 128, 3) := by decide +kernel
theorem dX14_get_46 : decode cX14_get 46 = .ok (.goto 17, 3) := by decide +kernel
theorem dX14_get_49 : decode cX14_get 49 = .ok (.iload_n 1, 1) := by decide +kernel
theorem dX14_get_50 : decode cX14_get 50 = .ok (.bipush 10, 2) := by decide +kernel
theorem dX14_get_52 : decode cX14_get 52 = .ok (.if_icmp .ne 10, 3) := by decide +kernel
theorem dX14_get_55 : decode cX14_get 55 = .ok (.aload_n 0, 1) := by decide +kernel
theorem dX14_get_56 : decode cX14_get 56 = .ok (.getfield 693, 3) := by decide +kernel
theorem dX14_get_59 : decode cX14_get 59 = .ok (.goto 4, 3) := by decide +kernel
theorem dX14_get_62 : decode cX14_get 62 = .ok (.iconst 0, 1) := by decide +kernel
theorem dX14_get_63 : decode cX14_get 63 = .ok (.ireturn, 1) := by decide +kernel
def r_getM (σ : Hp) (w : Int32) : Int32 := (if 0 ≤ w then (if 8 ≤ w then (if ¬ w = 8 then (if ¬ w = 9 then (if ¬ w = 10 then 0 else (gI σ 66 55)) else (gI σ 66 54)) else (gI σ 66 53)) else (gA σ 113 (w : Int32).toNatClampNeg)) else 0)
theorem w_getM (d : Nat) (σ : Hp) (w : Int32) (hR : Rf σ) : Cx yX14_get cX14_get 2 (some .int) (d) 122 122 [.ref 66, .int w] σ (fun o τ => o = .inl (some (.int (r_getM σ w))) ∧ τ = σ) := by
  refine Cx_of RX14 false (by decide) rfl (fun q => by cases q) (Nat.le_refl _) rfl (Nat.le_of_ble_eq_true rfl) ?_
  refine Wx_iload1 dX14_get_0 ?_
  refine Wx_if_ge 8 dX14_get_1 (by decide) (fun h1 => ?_) (fun h1 => ?_)
  ·
    refine Wx_iload1 dX14_get_8 ?_
    refine Wx_bipush (v := 8) dX14_get_9 (by decide) ?_
    refine Wx_icmp_ge 23 dX14_get_11 (by decide) (fun h2 => ?_) (fun h2 => ?_)
    ·
      refine Wx_iload1 dX14_get_23 ?_
      refine Wx_bipush (v := 8) dX14_get_24 (by decide) ?_
      refine Wx_icmp_ne 36 dX14_get_26 (by decide) (fun h3 => ?_) (fun h3 => ?_)
      ·
        refine Wx_iload1 dX14_get_36 ?_
        refine Wx_bipush (v := 9) dX14_get_37 (by decide) ?_
        refine Wx_icmp_ne 49 dX14_get_39 (by decide) (fun h4 => ?_) (fun h4 => ?_)
        ·
          refine Wx_iload1 dX14_get_49 ?_
          refine Wx_bipush (v := 10) dX14_get_50 (by decide) ?_
          refine Wx_icmp_ne 62 dX14_get_52 (by decide) (fun h5 => ?_) (fun h5 => ?_)
          ·
            refine Wx_iconst (v := 0) dX14_get_62 (by decide) ?_
            exact Wx_ireturn dX14_get_63 rfl rfl (⟨by rw [r_getM, if_pos h1, if_pos h2, if_pos h3, if_pos h4, if_pos h5], rfl⟩)
          ·
            refine Wx_aload0 dX14_get_55 ?_
            refine Wx_getI 14 55 dX14_get_56 f_X14_693 rfl (Nat.le_of_ble_eq_true rfl) rfl ?_
            refine Wx_goto 63 dX14_get_59 (by decide) ?_
            exact Wx_ireturn dX14_get_63 rfl rfl (⟨by rw [r_getM, if_pos h1, if_pos h2, if_pos h3, if_pos h4, if_neg h5], rfl⟩)
        ·
          refine Wx_aload0 dX14_get_42 ?_
          refine Wx_getI 14 54 dX14_get_43 f_X14_128 rfl (Nat.le_of_ble_eq_true rfl) rfl ?_
          refine Wx_goto 63 dX14_get_46 (by decide) ?_
          exact Wx_ireturn dX14_get_63 rfl rfl (⟨by rw [r_getM, if_pos h1, if_pos h2, if_pos h3, if_neg h4], rfl⟩)
      ·
        refine Wx_aload0 dX14_get_29 ?_
        refine Wx_getI 14 53 dX14_get_30 f_X14_651 rfl (Nat.le_of_ble_eq_true rfl) rfl ?_
        refine Wx_goto 63 dX14_get_33 (by decide) ?_
        exact Wx_ireturn dX14_get_63 rfl rfl (⟨by rw [r_getM, if_pos h1, if_pos h2, if_neg h3], rfl⟩)
    ·
      refine Wx_aload0 dX14_get_14 ?_
      refine Wx_getR 14 52 113 dX14_get_15 f_X14_125 rfl (Nat.le_of_ble_eq_true rfl) rfl (hR 66 52 113 (by decide)) ?_
      refine Wx_iload1 dX14_get_18 ?_
      refine Wx_iaload 8 dX14_get_19 rfl (Nat.le_of_ble_eq_true rfl) (vin1 (not_lt0 h1) h2 (by decide)) ?_
      refine Wx_goto 63 dX14_get_20 (by decide) ?_
      exact Wx_ireturn dX14_get_63 rfl rfl (⟨by rw [r_getM, if_pos h1, if_neg h2], rfl⟩)
  ·
    refine Wx_iconst (v := 0) dX14_get_4 (by decide) ?_
    refine Wx_goto 63 dX14_get_5 (by decide) ?_
    exact Wx_ireturn dX14_get_63 rfl rfl (⟨by rw [r_getM, if_neg h1], rfl⟩)
theorem dX11_put_0 : decode cX11_put 0 = .ok (.iload_n 1, 1) := by decide +kernel
theorem dX11_put_1 : decode cX11_put 1 = .ok (.ifCond .lt 9, 3) := by decide +kernel
theorem dX11_put_4 : decode cX11_put 4 = .ok (.iload_n 1, 1) := by decide +kernel
theorem dX11_put_5 : decode cX11_put 5 = .ok (.bipush 8, 2) := by decide +kernel
theorem dX11_put_7 : decode cX11_put 7 = .ok (.if_icmp .le 5, 3) := by decide +kernel
theorem dX11_put_10 : decode cX11_put 10 = .ok (.iconst 0, 1) := by decide +kernel
theorem dX11_put_11 : decode cX11_put 11 = .ok (.ireturn, 1) := by decide +kernel
theorem dX11_put_12 : decode cX11_put 12 = .ok (.iload_n 1, 1) := by decide +kernel
theorem dX11_put_13 : decode cX11_put 13 = .ok (.bipush 8, 2) := by decide +kernel
theorem dX11_put_15 : decode cX11_put 15 = .ok (.if_icmp .ne 21, 3) := by decide +kernel
theorem dX11_put_18 : decode cX11_put 18 = .ok (.aload_n 0, 1) := by decide +kernel
theorem dX11_put_19 : decode cX11_put 19 = .ok (.getfield 83, 3) := by decide +kernel
theorem dX11_put_22 : decode cX11_put 22 = .ok (.getfield 245, 3) := by decide +kernel
theorem dX11_put_25 : decode cX11_put 25 = .ok (.iload_n 2, 1) := by decide +kernel
theorem dX11_put_26 : decode cX11_put 26 = .ok (.sipush 2261, 3) := by decide +kernel
theorem dX11_put_29 : decode cX11_put 29 = .ok (.iand, 1) := by decide +kernel
theorem dX11_put_30 : decode cX11_put 30 = .ok (.putfield 249, 3) := by decide +kernel
theorem dX11_put_33 : decode cX11_put 33 = .ok (.goto 13, 3) := by decide +kernel
theorem dX11_put_36 : decode cX11_put 36 = .ok (.aload_n 0, 1) := by decide +kernel
theorem dX11_put_37 : decode cX11_put 37 = .ok (.getfield 83, 3) := by decide +kernel
theorem dX11_put_40 : decode cX11_put 40 = .ok (.getfield 242, 3) := by decide +kernel
theorem dX11_put_43 : decode cX11_put 43 = .ok (.iload_n 1, 1) := by decide +kernel
theorem dX11_put_44 : decode cX11_put 44 = .ok (.iload_n 2, 1) := by decide +kernel
theorem dX11_put_45 : decode cX11_put 45 = .ok (.iastore, 1) := by decide +kernel
theorem dX11_put_46 : decode cX11_put 46 = .ok (.iconst 1, 1) := by decide +kernel
theorem dX11_put_47 : decode cX11_put 47 = .ok (.ireturn, 1) := by decide +kernel
def r_put (σ : Hp) (w : Int32) (v : Int32) : Int32 := (if w < 0 then 0 else (if w ≤ 8 then 1 else 0))
def t_put (σ : Hp) (w : Int32) (v : Int32) : Hp := (if w < 0 then σ else (if w ≤ 8 then (if ¬ w = 8 then (pA σ 51 (w : Int32).toNatClampNeg v) else (pI σ 52 0 ((v : Int32) &&& 2261))) else σ))
theorem k_put (σ : Hp) (w : Int32) (v : Int32) : (t_put σ w v).2.1 = σ.2.1 := by
  unfold t_put
  simp only [apply_ite Prod.snd, apply_ite (Prod.fst (α := Nat → Nat → Option Nat) (β := (Nat → Nat → Int32) × (Nat → Nat → Int64))), R_pI, R_pI, R_pA, R_pL, R_rA, ite_self]
theorem w_put (d : Nat) (σ : Hp) (w : Int32) (v : Int32) (hR : Rf σ) : Cx yX11_put cX11_put 3 (some .boolean) (d) 122 122 [.ref 0, .int w, .int v] σ (fun o τ => o = .inl (some (.int (r_put σ w v))) ∧ τ = t_put σ w v) := by
  refine Cx_of RX11 false (by decide) rfl (fun q => by cases q) (Nat.le_refl _) rfl (Nat.le_of_ble_eq_true rfl) ?_
  refine Wx_iload1 dX11_put_0 ?_
  refine Wx_if_lt 10 dX11_put_1 (by decide) (fun h1 => ?_) (fun h1 => ?_)
  ·
    refine Wx_iconst (v := 0) dX11_put_10 (by decide) ?_
    exact Wx_zreturn dX11_put_11 rfl (by decide) rfl (⟨by rw [r_put, if_pos h1], by rw [t_put, if_pos h1]⟩)
  ·
    refine Wx_iload1 dX11_put_4 ?_
    refine Wx_bipush (v := 8) dX11_put_5 (by decide) ?_
    refine Wx_icmp_le 12 dX11_put_7 (by decide) (fun h2 => ?_) (fun h2 => ?_)
    ·
      refine Wx_iload1 dX11_put_12 ?_
      refine Wx_bipush (v := 8) dX11_put_13 (by decide) ?_
      refine Wx_icmp_ne 36 dX11_put_15 (by decide) (fun h3 => ?_) (fun h3 => ?_)
      ·
        refine Wx_aload0 dX11_put_36 ?_
        refine Wx_getR 11 13 50 dX11_put_37 f_X11_83 rfl (Nat.le_of_ble_eq_true rfl) rfl (hR 0 13 50 (by decide)) ?_
        refine Wx_getR 7 0 51 dX11_put_40 f_X11_242 rfl (Nat.le_of_ble_eq_true rfl) rfl (hR 50 0 51 (by decide)) ?_
        refine Wx_iload1 dX11_put_43 ?_
        refine Wx_iload2 dX11_put_44 ?_
        refine Wx_iastore 8 dX11_put_45 rfl (Nat.le_of_ble_eq_true rfl) (put_w h1 h2 h3) ?_
        refine Wx_iconst (v := 1) dX11_put_46 (by decide) ?_
        exact Wx_zreturn dX11_put_47 rfl (by decide) rfl (⟨by rw [r_put, if_neg h1, if_pos h2], by rw [t_put, if_neg h1, if_pos h2, if_pos h3]⟩)
      ·
        refine Wx_aload0 dX11_put_18 ?_
        refine Wx_getR 11 13 50 dX11_put_19 f_X11_83 rfl (Nat.le_of_ble_eq_true rfl) rfl (hR 0 13 50 (by decide)) ?_
        refine Wx_getR 7 1 52 dX11_put_22 f_X11_245 rfl (Nat.le_of_ble_eq_true rfl) rfl (hR 50 1 52 (by decide)) ?_
        refine Wx_iload2 dX11_put_25 ?_
        refine Wx_sipush (v := 2261) dX11_put_26 (by decide) ?_
        refine Wx_iand dX11_put_29 ?_
        refine Wx_putI 0 0 dX11_put_30 f_X11_249 rfl (Nat.le_of_ble_eq_true rfl) rfl rfl ?_
        refine Wx_goto 46 dX11_put_33 (by decide) ?_
        refine Wx_iconst (v := 1) dX11_put_46 (by decide) ?_
        exact Wx_zreturn dX11_put_47 rfl (by decide) rfl (⟨by rw [r_put, if_neg h1, if_pos h2], by rw [t_put, if_neg h1, if_pos h2, if_neg h3]⟩)
    ·
      refine Wx_iconst (v := 0) dX11_put_10 (by decide) ?_
      exact Wx_zreturn dX11_put_11 rfl (by decide) rfl (⟨by rw [r_put, if_neg h1, if_neg h2], by rw [t_put, if_neg h1, if_neg h2]⟩)
theorem dX14_put_0 : decode cX14_put 0 = .ok (.iload_n 1, 1) := by decide +kernel
theorem dX14_put_1 : decode cX14_put 1 = .ok (.ifCond .lt 9, 3) := by decide +kernel
theorem dX14_put_4 : decode cX14_put 4 = .ok (.iload_n 1, 1) := by decide +kernel
theorem dX14_put_5 : decode cX14_put 5 = .ok (.bipush 8, 2) := by decide +kernel
theorem dX14_put_7 : decode cX14_put 7 = .ok (.if_icmp .le 5, 3) := by decide +kernel
theorem dX14_put_10 : decode cX14_put 10 = .ok (.iconst 0, 1) := by decide +kernel
theorem dX14_put_11 : decode cX14_put 11 = .ok (.ireturn, 1) := by decide +kernel
theorem dX14_put_12 : decode cX14_put 12 = .ok (.iload_n 1, 1) := by decide +kernel
theorem dX14_put_13 : decode cX14_put 13 = .ok (.bipush 8, 2) := by decide +kernel
theorem dX14_put_15 : decode cX14_put 15 = .ok (.if_icmp .ne 15, 3) := by decide +kernel
theorem dX14_put_18 : decode cX14_put 18 = .ok (.aload_n 0, 1) := by decide +kernel
theorem dX14_put_19 : decode cX14_put 19 = .ok (.iload_n 2, 1) := by decide +kernel
theorem dX14_put_20 : decode cX14_put 20 = .ok (.sipush 2261, 3) := by decide +kernel
theorem dX14_put_23 : decode cX14_put 23 = .ok (.iand, 1) := by decide +kernel
theorem dX14_put_24 : decode cX14_put 24 = .ok (.putfield 651, 3) := by decide +kernel
theorem dX14_put_27 : decode cX14_put 27 = .ok (.goto 10, 3) := by decide +kernel
theorem dX14_put_30 : decode cX14_put 30 = .ok (.aload_n 0, 1) := by decide +kernel
theorem dX14_put_31 : decode cX14_put 31 = .ok (.getfield 125, 3) := by decide +kernel
theorem dX14_put_34 : decode cX14_put 34 = .ok (.iload_n 1, 1) := by decide +kernel
theorem dX14_put_35 : decode cX14_put 35 = .ok (.iload_n 2, 1) := by decide +kernel
theorem dX14_put_36 : decode cX14_put 36 = .ok (.iastore, 1) := by decide +kernel
theorem dX14_put_37 : decode cX14_put 37 = .ok (.iconst 1, 1) := by decide +kernel
theorem dX14_put_38 : decode cX14_put 38 = .ok (.ireturn, 1) := by decide +kernel
def r_putM (σ : Hp) (w : Int32) (v : Int32) : Int32 := (if w < 0 then 0 else (if w ≤ 8 then 1 else 0))
def t_putM (σ : Hp) (w : Int32) (v : Int32) : Hp := (if w < 0 then σ else (if w ≤ 8 then (if ¬ w = 8 then (pA σ 113 (w : Int32).toNatClampNeg v) else (pI σ 66 53 ((v : Int32) &&& 2261))) else σ))
theorem k_putM (σ : Hp) (w : Int32) (v : Int32) : (t_putM σ w v).2.1 = σ.2.1 := by
  unfold t_putM
  simp only [apply_ite Prod.snd, apply_ite (Prod.fst (α := Nat → Nat → Option Nat) (β := (Nat → Nat → Int32) × (Nat → Nat → Int64))), R_pI, R_pI, R_pA, R_pL, R_rA, ite_self]
theorem w_putM (d : Nat) (σ : Hp) (w : Int32) (v : Int32) (hR : Rf σ) : Cx yX14_put cX14_put 3 (some .boolean) (d) 122 122 [.ref 66, .int w, .int v] σ (fun o τ => o = .inl (some (.int (r_putM σ w v))) ∧ τ = t_putM σ w v) := by
  refine Cx_of RX14 false (by decide) rfl (fun q => by cases q) (Nat.le_refl _) rfl (Nat.le_of_ble_eq_true rfl) ?_
  refine Wx_iload1 dX14_put_0 ?_
  refine Wx_if_lt 10 dX14_put_1 (by decide) (fun h1 => ?_) (fun h1 => ?_)
  ·
    refine Wx_iconst (v := 0) dX14_put_10 (by decide) ?_
    exact Wx_zreturn dX14_put_11 rfl (by decide) rfl (⟨by rw [r_putM, if_pos h1], by rw [t_putM, if_pos h1]⟩)
  ·
    refine Wx_iload1 dX14_put_4 ?_
    refine Wx_bipush (v := 8) dX14_put_5 (by decide) ?_
    refine Wx_icmp_le 12 dX14_put_7 (by decide) (fun h2 => ?_) (fun h2 => ?_)
    ·
      refine Wx_iload1 dX14_put_12 ?_
      refine Wx_bipush (v := 8) dX14_put_13 (by decide) ?_
      refine Wx_icmp_ne 30 dX14_put_15 (by decide) (fun h3 => ?_) (fun h3 => ?_)
      ·
        refine Wx_aload0 dX14_put_30 ?_
        refine Wx_getR 14 52 113 dX14_put_31 f_X14_125 rfl (Nat.le_of_ble_eq_true rfl) rfl (hR 66 52 113 (by decide)) ?_
        refine Wx_iload1 dX14_put_34 ?_
        refine Wx_iload2 dX14_put_35 ?_
        refine Wx_iastore 8 dX14_put_36 rfl (Nat.le_of_ble_eq_true rfl) (put_w h1 h2 h3) ?_
        refine Wx_iconst (v := 1) dX14_put_37 (by decide) ?_
        exact Wx_zreturn dX14_put_38 rfl (by decide) rfl (⟨by rw [r_putM, if_neg h1, if_pos h2], by rw [t_putM, if_neg h1, if_pos h2, if_pos h3]⟩)
      ·
        refine Wx_aload0 dX14_put_18 ?_
        refine Wx_iload2 dX14_put_19 ?_
        refine Wx_sipush (v := 2261) dX14_put_20 (by decide) ?_
        refine Wx_iand dX14_put_23 ?_
        refine Wx_putI 14 53 dX14_put_24 f_X14_651 rfl (Nat.le_of_ble_eq_true rfl) rfl rfl ?_
        refine Wx_goto 37 dX14_put_27 (by decide) ?_
        refine Wx_iconst (v := 1) dX14_put_37 (by decide) ?_
        exact Wx_zreturn dX14_put_38 rfl (by decide) rfl (⟨by rw [r_putM, if_neg h1, if_pos h2], by rw [t_putM, if_neg h1, if_pos h2, if_neg h3]⟩)
    ·
      refine Wx_iconst (v := 0) dX14_put_10 (by decide) ?_
      exact Wx_zreturn dX14_put_11 rfl (by decide) rfl (⟨by rw [r_putM, if_neg h1, if_neg h2], by rw [t_putM, if_neg h1, if_neg h2]⟩)

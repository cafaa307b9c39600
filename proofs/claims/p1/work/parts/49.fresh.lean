theorem Rf_pR {σ : Hp} {i k : Nat} {v : Option Nat} (h : rtL.all (fun e => !(e.1 == i && e.2.1 == k)) = true) (H : Rf σ) : Rf (pR σ i k v) := fun o s j m => by
  have := List.all_eq_true.mp h (o, s, j) m
  simp only [Bool.not_eq_true', Bool.and_eq_false_iff, beq_eq_false_iff_ne] at this
  rw [gR_pR (fun q => by rcases this with t | t; exact t q.1; exact t q.2)]
  exact H o s j m
theorem dX2_dropAll_0 : decode cX2_dropAll 0 = .ok (.aload_n 0, 1) := by decide +kernel
theorem dX2_dropAll_1 : decode cX2_dropAll 1 = .ok (.getfield 20, 3) := by decide +kernel
theorem dX2_dropAll_4 : decode cX2_dropAll 4 = .ok (.iconst (-1), 1) := by decide +kernel
theorem dX2_dropAll_5 : decode cX2_dropAll 5 = .ok (.invokestatic 75, 3) := by decide +kernel
theorem dX2_dropAll_8 : decode cX2_dropAll 8 = .ok (.aload_n 0, 1) := by decide +kernel
theorem dX2_dropAll_9 : decode cX2_dropAll 9 = .ok (.iconst 0, 1) := by decide +kernel
theorem dX2_dropAll_10 : decode cX2_dropAll 10 = .ok (.putfield 40, 3) := by decide +kernel
theorem dX2_dropAll_13 : decode cX2_dropAll 13 = .ok (.return_, 1) := by decide +kernel
def t_dropAll (σ : Hp) : Hp := (pI (t_fill59 σ) 56 6 0)
theorem k_dropAll (σ : Hp) : (t_dropAll σ).2.1 = σ.2.1 := by
  unfold t_dropAll
  simp only [apply_ite Prod.snd, apply_ite (Prod.fst (α := Nat → Nat → Option Nat) (β := (Nat → Nat → Int32) × (Nat → Nat → Int64))), k_fill59, R_pI, R_pA, R_pL, R_rA, ite_self]
theorem w_dropAll (d : Nat) (σ : Hp) (hR : Rf σ) : Cx yX2_dropAll cX2_dropAll 1 none (d + 1) 122 122 [.ref 56] σ (fun o τ => o = .inl none ∧ τ = t_dropAll σ) := by
  refine Cx_of RX2 false (by decide) rfl (fun q => by cases q) (Nat.le_refl _) rfl (Nat.le_of_ble_eq_true rfl) ?_
  refine Wx_aload0 dX2_dropAll_0 ?_
  refine Wx_getR 2 2 59 dX2_dropAll_1 f_X2_20 rfl (Nat.le_of_ble_eq_true rfl) rfl (hR 56 2 59 (by decide)) ?_
  refine Wx_iconst (v := (-1)) dX2_dropAll_4 (by decide) ?_
  have c1 := (w_fill59 (d + 0) σ)
  refine Wx_cSv [.ref 59, .int (-1)] 2 m_J7_fill_53178 l_X2_75 s_J7_fill_53178 dX2_dropAll_5 c1 (show _ ≤ d + 1 from Nat.le_refl _) (Nat.le_refl _) rfl (Nat.le_of_ble_eq_true rfl) rfl ?_
  clear c1
  refine Wx_aload0 dX2_dropAll_8 ?_
  refine Wx_iconst (v := 0) dX2_dropAll_9 (by decide) ?_
  refine Wx_putI 2 6 dX2_dropAll_10 f_X2_40 rfl (Nat.le_of_ble_eq_true rfl) rfl rfl ?_
  exact Wx_return dX2_dropAll_13 rfl rfl (⟨rfl, by rw [t_dropAll]⟩)
theorem dX2_findGoals_0 : decode cX2_findGoals 0 = .ok (.aload_n 0, 1) := by decide +kernel
theorem dX2_findGoals_1 : decode cX2_findGoals 1 = .ok (.getfield 11, 3) := by decide +kernel
theorem dX2_findGoals_4 : decode cX2_findGoals 4 = .ok (.iconst 0, 1) := by decide +kernel
theorem dX2_findGoals_5 : decode cX2_findGoals 5 = .ok (.invokestatic 75, 3) := by decide +kernel
theorem dX2_findGoals_8 : decode cX2_findGoals 8 = .ok (.aload_n 0, 1) := by decide +kernel
theorem dX2_findGoals_9 : decode cX2_findGoals 9 = .ok (.getfield 17, 3) := by decide +kernel
theorem dX2_findGoals_12 : decode cX2_findGoals 12 = .ok (.iconst 0, 1) := by decide +kernel
theorem dX2_findGoals_13 : decode cX2_findGoals 13 = .ok (.invokestatic 75, 3) := by decide +kernel
theorem dX2_findGoals_16 : decode cX2_findGoals 16 = .ok (.iconst 0, 1) := by decide +kernel
theorem dX2_findGoals_17 : decode cX2_findGoals 17 = .ok (.istore_n 1, 1) := by decide +kernel
theorem dX2_findGoals_18 : decode cX2_findGoals 18 = .ok (.iload_n 1, 1) := by decide +kernel
theorem dX2_findGoals_19 : decode cX2_findGoals 19 = .ok (.aload_n 0, 1) := by decide +kernel
theorem dX2_findGoals_20 : decode cX2_findGoals 20 = .ok (.getfield 36, 3) := by decide +kernel
theorem dX2_findGoals_23 : decode cX2_findGoals 23 = .ok (.if_icmp .ge 98, 3) := by decide +kernel
theorem dX2_findGoals_26 : decode cX2_findGoals 26 = .ok (.aload_n 0, 1) := by decide +kernel
theorem dX2_findGoals_27 : decode cX2_findGoals 27 = .ok (.getfield 28, 3) := by decide +kernel
theorem dX2_findGoals_30 : decode cX2_findGoals 30 = .ok (.aload_n 0, 1) := by decide +kernel
theorem dX2_findGoals_31 : decode cX2_findGoals 31 = .ok (.getfield 32, 3) := by decide +kernel
theorem dX2_findGoals_34 : decode cX2_findGoals 34 = .ok (.aload_n 0, 1) := by decide +kernel
theorem dX2_findGoals_35 : decode cX2_findGoals 35 = .ok (.getfield 36, 3) := by decide +kernel
theorem dX2_findGoals_38 : decode cX2_findGoals 38 = .ok (.iload_n 1, 1) := by decide +kernel
theorem dX2_findGoals_39 : decode cX2_findGoals 39 = .ok (.invokevirtual 81, 3) := by decide +kernel
theorem dX2_findGoals_42 : decode cX2_findGoals 42 = .ok (.aload_n 0, 1) := by decide +kernel
theorem dX2_findGoals_43 : decode cX2_findGoals 43 = .ok (.iload_n 1, 1) := by decide +kernel
theorem dX2_findGoals_44 : decode cX2_findGoals 44 = .ok (.invokevirtual 85, 3) := by decide +kernel
theorem dX2_findGoals_47 : decode cX2_findGoals 47 = .ok (.ifCond .ne 4, 3) := by decide +kernel
theorem dX2_findGoals_50 : decode cX2_findGoals 50 = .ok (.return_, 1) := by decide +kernel
theorem dX2_findGoals_51 : decode cX2_findGoals 51 = .ok (.aload_n 0, 1) := by decide +kernel
theorem dX2_findGoals_52 : decode cX2_findGoals 52 = .ok (.getfield 11, 3) := by decide +kernel
theorem dX2_findGoals_55 : decode cX2_findGoals 55 = .ok (.iload_n 1, 1) := by decide +kernel
theorem dX2_findGoals_56 : decode cX2_findGoals 56 = .ok (.invokestatic 89, 3) := by decide +kernel
theorem dX2_findGoals_59 : decode cX2_findGoals 59 = .ok (.iload_n 1, 1) := by decide +kernel
theorem dX2_findGoals_60 : decode cX2_findGoals 60 = .ok (.aload_n 0, 1) := by decide +kernel
theorem dX2_findGoals_61 : decode cX2_findGoals 61 = .ok (.getfield 28, 3) := by decide +kernel
theorem dX2_findGoals_64 : decode cX2_findGoals 64 = .ok (.getfield 72, 3) := by decide +kernel
theorem dX2_findGoals_67 : decode cX2_findGoals 67 = .ok (.iadd, 1) := by decide +kernel
theorem dX2_findGoals_68 : decode cX2_findGoals 68 = .ok (.aload_n 0, 1) := by decide +kernel
theorem dX2_findGoals_69 : decode cX2_findGoals 69 = .ok (.getfield 28, 3) := by decide +kernel
theorem dX2_findGoals_72 : decode cX2_findGoals 72 = .ok (.getfield 92, 3) := by decide +kernel
theorem dX2_findGoals_75 : decode cX2_findGoals 75 = .ok (.iadd, 1) := by decide +kernel
theorem dX2_findGoals_76 : decode cX2_findGoals 76 = .ok (.istore_n 2, 1) := by decide +kernel
theorem dX2_findGoals_77 : decode cX2_findGoals 77 = .ok (.aload_n 0, 1) := by decide +kernel
theorem dX2_findGoals_78 : decode cX2_findGoals 78 = .ok (.invokevirtual 95, 3) := by decide +kernel
theorem dX2_findGoals_81 : decode cX2_findGoals 81 = .ok (.ifCond .eq 23, 3) := by decide +kernel
theorem dX2_findGoals_84 : decode cX2_findGoals 84 = .ok (.iload_n 2, 1) := by decide +kernel
theorem dX2_findGoals_85 : decode cX2_findGoals 85 = .ok (.ifCond .lt 19, 3) := by decide +kernel
theorem dX2_findGoals_88 : decode cX2_findGoals 88 = .ok (.iload_n 2, 1) := by decide +kernel
theorem dX2_findGoals_89 : decode cX2_findGoals 89 = .ok (.aload_n 0, 1) := by decide +kernel
theorem dX2_findGoals_90 : decode cX2_findGoals 90 = .ok (.getfield 36, 3) := by decide +kernel
theorem dX2_findGoals_93 : decode cX2_findGoals 93 = .ok (.if_icmp .ge 11, 3) := by decide +kernel
theorem dX2_findGoals_96 : decode cX2_findGoals 96 = .ok (.aload_n 0, 1) := by decide +kernel
theorem dX2_findGoals_97 : decode cX2_findGoals 97 = .ok (.getfield 17, 3) := by decide +kernel
theorem dX2_findGoals_100 : decode cX2_findGoals 100 = .ok (.iload_n 2, 1) := by decide +kernel
theorem dX2_findGoals_101 : decode cX2_findGoals 101 = .ok (.invokestatic 89, 3) := by decide +kernel
theorem dX2_findGoals_104 : decode cX2_findGoals 104 = .ok (.iload_n 1, 1) := by decide +kernel
theorem dX2_findGoals_105 : decode cX2_findGoals 105 = .ok (.iconst 1, 1) := by decide +kernel
theorem dX2_findGoals_106 : decode cX2_findGoals 106 = .ok (.aload_n 0, 1) := by decide +kernel
theorem dX2_findGoals_107 : decode cX2_findGoals 107 = .ok (.getfield 28, 3) := by decide +kernel
theorem dX2_findGoals_110 : decode cX2_findGoals 110 = .ok (.getfield 72, 3) := by decide +kernel
theorem dX2_findGoals_113 : decode cX2_findGoals 113 = .ok (.invokestatic 99, 3) := by decide +kernel
theorem dX2_findGoals_116 : decode cX2_findGoals 116 = .ok (.iadd, 1) := by decide +kernel
theorem dX2_findGoals_117 : decode cX2_findGoals 117 = .ok (.istore_n 1, 1) := by decide +kernel
theorem dX2_findGoals_118 : decode cX2_findGoals 118 = .ok (.goto (-100), 3) := by decide +kernel
theorem dX2_findGoals_121 : decode cX2_findGoals 121 = .ok (.return_, 1) := by decide +kernel
def t_findGoals0 (σ : Hp) : Hp := (t_fill58 (t_fill57 σ))
theorem k_findGoals0 (σ : Hp) : (t_findGoals0 σ).2.1 = σ.2.1 := by
  unfold t_findGoals0
  simp only [apply_ite Prod.snd, apply_ite (Prod.fst (α := Nat → Nat → Option Nat) (β := (Nat → Nat → Int32) × (Nat → Nat → Int64))), k_fill57, k_fill58, R_pI, R_pA, R_pL, R_rA, ite_self]
theorem w_findGoals0 (d : Nat) (σ : Hp) (hR : Rf σ) (e0 : gI σ 56 5 = 0) : Cx yX2_findGoals cX2_findGoals 3 none (d + 1) 122 122 [.ref 56] σ (fun o τ => o = .inl none ∧ τ = t_findGoals0 σ) := by
  refine Cx_of RX2 false (by decide) rfl (fun q => by cases q) (Nat.le_refl _) rfl (Nat.le_of_ble_eq_true rfl) ?_
  refine Wx_aload0 dX2_findGoals_0 ?_
  refine Wx_getR 2 0 57 dX2_findGoals_1 f_X2_11 rfl (Nat.le_of_ble_eq_true rfl) rfl (hR 56 0 57 (by decide)) ?_
  refine Wx_iconst (v := 0) dX2_findGoals_4 (by decide) ?_
  have c1 := (w_fill57 (d + 0) σ)
  refine Wx_cSv [.ref 57, .int 0] 2 m_J7_fill_53178 l_X2_75 s_J7_fill_53178 dX2_findGoals_5 c1 (show _ ≤ d + 1 from Nat.le_refl _) (Nat.le_refl _) rfl (Nat.le_of_ble_eq_true rfl) rfl ?_
  clear c1
  refine Wx_aload0 dX2_findGoals_8 ?_
  refine Wx_getR 2 1 58 dX2_findGoals_9 f_X2_17 rfl (Nat.le_of_ble_eq_true rfl) rfl ((Rf_of (k_fill57 σ) hR) 56 1 58 (by decide)) ?_
  refine Wx_iconst (v := 0) dX2_findGoals_12 (by decide) ?_
  have c2 := (w_fill58 (d + 0) (t_fill57 σ))
  refine Wx_cSv [.ref 58, .int 0] 2 m_J7_fill_53178 l_X2_75 s_J7_fill_53178 dX2_findGoals_13 c2 (show _ ≤ d + 1 from Nat.le_refl _) (Nat.le_refl _) rfl (Nat.le_of_ble_eq_true rfl) rfl ?_
  clear c2
  refine Wx_iconst (v := 0) dX2_findGoals_16 (by decide) ?_
  refine Wx_istore1 dX2_findGoals_17 rfl (Nat.le_of_ble_eq_true rfl) ?_
  refine Wx_iload1 dX2_findGoals_18 ?_
  refine Wx_aload0 dX2_findGoals_19 ?_
  refine Wx_getI 2 5 dX2_findGoals_20 f_X2_36 rfl (Nat.le_of_ble_eq_true rfl) rfl ?_
  rw [show gI (t_fill58 (t_fill57 σ)) 56 5 = 0 from (by simp only [t_fill57, t_fill58, t_dropAll, t_fill59, gI_rA, gI_pI (show ¬ (56 = 56 ∧ 5 = 6) by decide)]; exact e0)]
  refine Wx_icmp_ge 121 dX2_findGoals_23 (by decide) (fun _ => ?_) (fun h => absurd (by decide) h)
  exact Wx_return dX2_findGoals_121 rfl rfl (⟨rfl, by rw [t_findGoals0]⟩)
theorem dX2_findRefused_0 : decode cX2_findRefused 0 = .ok (.aload_n 0, 1) := by decide +kernel
theorem dX2_findRefused_1 : decode cX2_findRefused 1 = .ok (.invokevirtual 102, 3) := by decide +kernel
theorem dX2_findRefused_4 : decode cX2_findRefused 4 = .ok (.iconst 0, 1) := by decide +kernel
theorem dX2_findRefused_5 : decode cX2_findRefused 5 = .ok (.istore_n 1, 1) := by decide +kernel
theorem dX2_findRefused_6 : decode cX2_findRefused 6 = .ok (.iload_n 1, 1) := by decide +kernel
theorem dX2_findRefused_7 : decode cX2_findRefused 7 = .ok (.aload_n 0, 1) := by decide +kernel
theorem dX2_findRefused_8 : decode cX2_findRefused 8 = .ok (.getfield 36, 3) := by decide +kernel
theorem dX2_findRefused_11 : decode cX2_findRefused 11 = .ok (.if_icmp .ge 88, 3) := by decide +kernel
theorem dX2_findRefused_14 : decode cX2_findRefused 14 = .ok (.aload_n 0, 1) := by decide +kernel
theorem dX2_findRefused_15 : decode cX2_findRefused 15 = .ok (.getfield 28, 3) := by decide +kernel
theorem dX2_findRefused_18 : decode cX2_findRefused 18 = .ok (.aload_n 0, 1) := by decide +kernel
theorem dX2_findRefused_19 : decode cX2_findRefused 19 = .ok (.getfield 32, 3) := by decide +kernel
theorem dX2_findRefused_22 : decode cX2_findRefused 22 = .ok (.aload_n 0, 1) := by decide +kernel
theorem dX2_findRefused_23 : decode cX2_findRefused 23 = .ok (.getfield 36, 3) := by decide +kernel
theorem dX2_findRefused_26 : decode cX2_findRefused 26 = .ok (.iload_n 1, 1) := by decide +kernel
theorem dX2_findRefused_27 : decode cX2_findRefused 27 = .ok (.invokevirtual 81, 3) := by decide +kernel
theorem dX2_findRefused_30 : decode cX2_findRefused 30 = .ok (.iload_n 1, 1) := by decide +kernel
theorem dX2_findRefused_31 : decode cX2_findRefused 31 = .ok (.bipush 32, 2) := by decide +kernel
theorem dX2_findRefused_33 : decode cX2_findRefused 33 = .ok (.irem, 1) := by decide +kernel
theorem dX2_findRefused_34 : decode cX2_findRefused 34 = .ok (.ifCond .eq 14, 3) := by decide +kernel
theorem dX2_findRefused_37 : decode cX2_findRefused 37 = .ok (.aload_n 0, 1) := by decide +kernel
theorem dX2_findRefused_38 : decode cX2_findRefused 38 = .ok (.getfield 17, 3) := by decide +kernel
theorem dX2_findRefused_41 : decode cX2_findRefused 41 = .ok (.iload_n 1, 1) := by decide +kernel
theorem dX2_findRefused_42 : decode cX2_findRefused 42 = .ok (.invokestatic 105, 3) := by decide +kernel
theorem dX2_findRefused_45 : decode cX2_findRefused 45 = .ok (.ifCond .eq 7, 3) := by decide +kernel
theorem dX2_findRefused_48 : decode cX2_findRefused 48 = .ok (.aload_n 0, 1) := by decide +kernel
theorem dX2_findRefused_49 : decode cX2_findRefused 49 = .ok (.invokevirtual 102, 3) := by decide +kernel
theorem dX2_findRefused_52 : decode cX2_findRefused 52 = .ok (.aload_n 0, 1) := by decide +kernel
theorem dX2_findRefused_53 : decode cX2_findRefused 53 = .ok (.aload_n 0, 1) := by decide +kernel
theorem dX2_findRefused_54 : decode cX2_findRefused 54 = .ok (.iload_n 1, 1) := by decide +kernel
theorem dX2_findRefused_55 : decode cX2_findRefused 55 = .ok (.invokevirtual 109, 3) := by decide +kernel
theorem dX2_findRefused_58 : decode cX2_findRefused 58 = .ok (.putfield 50, 3) := by decide +kernel
theorem dX2_findRefused_61 : decode cX2_findRefused 61 = .ok (.aload_n 0, 1) := by decide +kernel
theorem dX2_findRefused_62 : decode cX2_findRefused 62 = .ok (.getfield 50, 3) := by decide +kernel
theorem dX2_findRefused_65 : decode cX2_findRefused 65 = .ok (.ifCond .eq 9, 3) := by decide +kernel
theorem dX2_findRefused_68 : decode cX2_findRefused 68 = .ok (.aload_n 0, 1) := by decide +kernel
theorem dX2_findRefused_69 : decode cX2_findRefused 69 = .ok (.iload_n 1, 1) := by decide +kernel
theorem dX2_findRefused_70 : decode cX2_findRefused 70 = .ok (.putfield 53, 3) := by decide +kernel
theorem dX2_findRefused_73 : decode cX2_findRefused 73 = .ok (.return_, 1) := by decide +kernel
theorem dX2_findRefused_74 : decode cX2_findRefused 74 = .ok (.aload_n 0, 1) := by decide +kernel
theorem dX2_findRefused_75 : decode cX2_findRefused 75 = .ok (.invokevirtual 113, 3) := by decide +kernel
theorem dX2_findRefused_78 : decode cX2_findRefused 78 = .ok (.aload_n 0, 1) := by decide +kernel
theorem dX2_findRefused_79 : decode cX2_findRefused 79 = .ok (.invokevirtual 116, 3) := by decide +kernel
theorem dX2_findRefused_82 : decode cX2_findRefused 82 = .ok (.iload_n 1, 1) := by decide +kernel
theorem dX2_findRefused_83 : decode cX2_findRefused 83 = .ok (.iconst 1, 1) := by decide +kernel
theorem dX2_findRefused_84 : decode cX2_findRefused 84 = .ok (.aload_n 0, 1) := by decide +kernel
theorem dX2_findRefused_85 : decode cX2_findRefused 85 = .ok (.getfield 28, 3) := by decide +kernel
theorem dX2_findRefused_88 : decode cX2_findRefused 88 = .ok (.getfield 72, 3) := by decide +kernel
theorem dX2_findRefused_91 : decode cX2_findRefused 91 = .ok (.invokestatic 99, 3) := by decide +kernel
theorem dX2_findRefused_94 : decode cX2_findRefused 94 = .ok (.iadd, 1) := by decide +kernel
theorem dX2_findRefused_95 : decode cX2_findRefused 95 = .ok (.istore_n 1, 1) := by decide +kernel
theorem dX2_findRefused_96 : decode cX2_findRefused 96 = .ok (.goto (-90), 3) := by decide +kernel
theorem dX2_findRefused_99 : decode cX2_findRefused 99 = .ok (.return_, 1) := by decide +kernel
def t_findRefused0 (σ : Hp) : Hp := (t_dropAll σ)
theorem k_findRefused0 (σ : Hp) : (t_findRefused0 σ).2.1 = σ.2.1 := by
  unfold t_findRefused0
  simp only [apply_ite Prod.snd, apply_ite (Prod.fst (α := Nat → Nat → Option Nat) (β := (Nat → Nat → Int32) × (Nat → Nat → Int64))), k_dropAll, R_pI, R_pA, R_pL, R_rA, ite_self]
theorem w_findRefused0 (d : Nat) (σ : Hp) (hR : Rf σ) (e0 : gI σ 56 5 = 0) : Cx yX2_findRefused cX2_findRefused 2 none (d + 2) 122 122 [.ref 56] σ (fun o τ => o = .inl none ∧ τ = t_findRefused0 σ) := by
  refine Cx_of RX2 false (by decide) rfl (fun q => by cases q) (Nat.le_refl _) rfl (Nat.le_of_ble_eq_true rfl) ?_
  refine Wx_aload0 dX2_findRefused_0 ?_
  have c1 := (w_dropAll (d + 0) σ hR)
  refine Wx_cVv 56 2 [] 0 m_X2_dropAll l_X2_102 i_X2_dropAll rfl rfl (show 56 < 122 by decide) dX2_findRefused_1 c1 (show _ ≤ d + 2 from Nat.le_refl _) (Nat.le_refl _) rfl (Nat.le_of_ble_eq_true rfl) rfl ?_
  clear c1
  refine Wx_iconst (v := 0) dX2_findRefused_4 (by decide) ?_
  refine Wx_istore1 dX2_findRefused_5 rfl (Nat.le_of_ble_eq_true rfl) ?_
  refine Wx_iload1 dX2_findRefused_6 ?_
  refine Wx_aload0 dX2_findRefused_7 ?_
  refine Wx_getI 2 5 dX2_findRefused_8 f_X2_36 rfl (Nat.le_of_ble_eq_true rfl) rfl ?_
  rw [show gI (t_dropAll σ) 56 5 = 0 from (by simp only [t_fill57, t_fill58, t_dropAll, t_fill59, gI_rA, gI_pI (show ¬ (56 = 56 ∧ 5 = 6) by decide)]; exact e0)]
  refine Wx_icmp_ge 99 dX2_findRefused_11 (by decide) (fun _ => ?_) (fun h => absurd (by decide) h)
  exact Wx_return dX2_findRefused_99 rfl rfl (⟨rfl, by rw [t_findRefused0]⟩)
theorem dX2_look_0 : decode cX2_look 0 = .ok (.aload_n 0, 1) := by decide +kernel
theorem dX2_look_1 : decode cX2_look 1 = .ok (.getfield 46, 3) := by decide +kernel
theorem dX2_look_4 : decode cX2_look 4 = .ok (.ifCond .eq 4, 3) := by decide +kernel
theorem dX2_look_7 : decode cX2_look 7 = .ok (.return_, 1) := by decide +kernel
theorem dX2_look_8 : decode cX2_look 8 = .ok (.aload_n 0, 1) := by decide +kernel
theorem dX2_look_9 : decode cX2_look 9 = .ok (.aload_n 1, 1) := by decide +kernel
theorem dX2_look_10 : decode cX2_look 10 = .ok (.putfield 32, 3) := by decide +kernel
theorem dX2_look_13 : decode cX2_look 13 = .ok (.aload_n 0, 1) := by decide +kernel
theorem dX2_look_14 : decode cX2_look 14 = .ok (.iload_n 2, 1) := by decide +kernel
theorem dX2_look_15 : decode cX2_look 15 = .ok (.ldc 56, 2) := by decide +kernel
theorem dX2_look_17 : decode cX2_look 17 = .ok (.invokestatic 57, 3) := by decide +kernel
theorem dX2_look_20 : decode cX2_look 20 = .ok (.putfield 36, 3) := by decide +kernel
theorem dX2_look_23 : decode cX2_look 23 = .ok (.aload_n 0, 1) := by decide +kernel
theorem dX2_look_24 : decode cX2_look 24 = .ok (.iconst 1, 1) := by decide +kernel
theorem dX2_look_25 : decode cX2_look 25 = .ok (.putfield 46, 3) := by decide +kernel
theorem dX2_look_28 : decode cX2_look 28 = .ok (.aload_n 0, 1) := by decide +kernel
theorem dX2_look_29 : decode cX2_look 29 = .ok (.iconst 0, 1) := by decide +kernel
theorem dX2_look_30 : decode cX2_look 30 = .ok (.putfield 50, 3) := by decide +kernel
theorem dX2_look_33 : decode cX2_look 33 = .ok (.aload_n 0, 1) := by decide +kernel
theorem dX2_look_34 : decode cX2_look 34 = .ok (.iconst (-1), 1) := by decide +kernel
theorem dX2_look_35 : decode cX2_look 35 = .ok (.putfield 53, 3) := by decide +kernel
theorem dX2_look_38 : decode cX2_look 38 = .ok (.aload_n 0, 1) := by decide +kernel
theorem dX2_look_39 : decode cX2_look 39 = .ok (.invokevirtual 63, 3) := by decide +kernel
theorem dX2_look_42 : decode cX2_look 42 = .ok (.aload_n 0, 1) := by decide +kernel
theorem dX2_look_43 : decode cX2_look 43 = .ok (.invokevirtual 66, 3) := by decide +kernel
theorem dX2_look_46 : decode cX2_look 46 = .ok (.return_, 1) := by decide +kernel
def t_look0 (σ : Hp) : Hp := (t_findRefused0 (t_findGoals0 (pI (pI (pI (pI (pR σ 56 4 (some 53)) 56 5 0) 56 8 1) 56 9 0) 56 10 (-1))))
theorem w_look0 (d : Nat) (σ : Hp) (hR : Rf σ) (ek : gI σ 56 8 = 0) : Cx yX2_look cX2_look 3 none (d + 3) 122 122 [.ref 56, .ref 53, .int 0] σ (fun o τ => o = .inl none ∧ τ = t_look0 σ) := by
  refine Cx_of RX2 false (by decide) rfl (fun q => by cases q) (Nat.le_refl _) rfl (Nat.le_of_ble_eq_true rfl) ?_
  refine Wx_aload0 dX2_look_0 ?_
  refine Wx_getI 2 8 dX2_look_1 f_X2_46 rfl (Nat.le_of_ble_eq_true rfl) rfl ?_
  rw [show gI σ 56 8 = 0 from ek]
  refine Wx_if_eq 8 dX2_look_4 (by decide) (fun _ => ?_) (fun h => absurd (by decide) h)
  refine Wx_aload0 dX2_look_8 ?_
  refine Wx_aload1 dX2_look_9 ?_
  refine Wx_putR 2 4 dX2_look_10 f_X2_32 rfl (Nat.le_of_ble_eq_true rfl) rfl rfl ?_
  refine Wx_aload0 dX2_look_13 ?_
  refine Wx_iload2 dX2_look_14 ?_
  refine Wx_ldc dX2_look_15 k_X2_56 ?_
  refine Wx_min dX2_look_17 (YTb_2_ok (57, 9) (by decide)) (Nat.le_of_ble_eq_true rfl) (show 1 ≤ d + 3 by omega) ?_
  rw [show ((if (61440 : Int32) < 0 then 61440 else 0) : Int32) = 0 from rfl]
  refine Wx_putI 2 5 dX2_look_20 f_X2_36 rfl (Nat.le_of_ble_eq_true rfl) rfl rfl ?_
  refine Wx_aload0 dX2_look_23 ?_
  refine Wx_iconst (v := 1) dX2_look_24 (by decide) ?_
  refine Wx_putZ 2 8 dX2_look_25 f_X2_46 rfl (Nat.le_of_ble_eq_true rfl) rfl rfl (by decide) ?_
  refine Wx_aload0 dX2_look_28 ?_
  refine Wx_iconst (v := 0) dX2_look_29 (by decide) ?_
  refine Wx_putI 2 9 dX2_look_30 f_X2_50 rfl (Nat.le_of_ble_eq_true rfl) rfl rfl ?_
  refine Wx_aload0 dX2_look_33 ?_
  refine Wx_iconst (v := (-1)) dX2_look_34 (by decide) ?_
  refine Wx_putI 2 10 dX2_look_35 f_X2_53 rfl (Nat.le_of_ble_eq_true rfl) rfl rfl ?_
  refine Wx_aload0 dX2_look_38 ?_
  have c1 := (w_findGoals0 (d + 1) (pI (pI (pI (pI (pR σ 56 4 (some 53)) 56 5 0) 56 8 1) 56 9 0) 56 10 (-1)) (Rf_pI (Rf_pI (Rf_pI (Rf_pI (Rf_pR (by decide) hR))))) (by simp only [gI_rA, gI_pR, gI_pI, gI_pIs, ne_eq, Nat.reduceEqDiff, not_false_eq_true, and_true, and_false, false_and]))
  refine Wx_cVv 56 2 [] 0 m_X2_findGoals l_X2_63 i_X2_findGoals rfl rfl (show 56 < 122 by decide) dX2_look_39 c1 (show _ ≤ d + 3 from Nat.le_refl _) (Nat.le_refl _) rfl (Nat.le_of_ble_eq_true rfl) rfl ?_
  clear c1
  refine Wx_aload0 dX2_look_42 ?_
  have c2 := (w_findRefused0 (d + 0) (t_findGoals0 (pI (pI (pI (pI (pR σ 56 4 (some 53)) 56 5 0) 56 8 1) 56 9 0) 56 10 (-1))) (Rf_of (k_findGoals0 (pI (pI (pI (pI (pR σ 56 4 (some 53)) 56 5 0) 56 8 1) 56 9 0) 56 10 (-1))) (Rf_pI (Rf_pI (Rf_pI (Rf_pI (Rf_pR (by decide) hR)))))) (by unfold t_findGoals0 t_fill57 t_fill58; simp only [gI_rA, gI_pR, gI_pI, gI_pIs, ne_eq, Nat.reduceEqDiff, not_false_eq_true, and_true, and_false, false_and]))
  refine Wx_cVv 56 2 [] 0 m_X2_findRefused l_X2_66 i_X2_findRefused rfl rfl (show 56 < 122 by decide) dX2_look_43 c2 (show _ ≤ d + 3 from Nat.le_refl _) (Nat.le_refl _) rfl (Nat.le_of_ble_eq_true rfl) rfl ?_
  clear c2
  exact Wx_return dX2_look_46 rfl rfl (⟨rfl, by rw [t_look0]⟩)
theorem Rf_look0 {σ : Hp} (H : Rf σ) : Rf (t_look0 σ) := Rf_of (k_findRefused0 _) (Rf_of (k_findGoals0 _) (Rf_pI (Rf_pI (Rf_pI (Rf_pI (Rf_pR (by decide) H))))))
theorem dX11_check_0 : decode cX11_check 0 = .ok (.iload_n 1, 1) := by decide +kernel
theorem dX11_check_1 : decode cX11_check 1 = .ok (.ifCond .eq 10, 3) := by decide +kernel
theorem dX11_check_4 : decode cX11_check 4 = .ok (.iload_n 1, 1) := by decide +kernel
theorem dX11_check_5 : decode cX11_check 5 = .ok (.iconst 1, 1) := by decide +kernel
theorem dX11_check_6 : decode cX11_check 6 = .ok (.if_icmp .eq 5, 3) := by decide +kernel
theorem dX11_check_9 : decode cX11_check 9 = .ok (.iconst (-1), 1) := by decide +kernel
theorem dX11_check_10 : decode cX11_check 10 = .ok (.ireturn, 1) := by decide +kernel
theorem dX11_check_11 : decode cX11_check 11 = .ok (.aload_n 0, 1) := by decide +kernel
theorem dX11_check_12 : decode cX11_check 12 = .ok (.getfield 90, 3) := by decide +kernel
theorem dX11_check_15 : decode cX11_check 15 = .ok (.aload_n 0, 1) := by decide +kernel
theorem dX11_check_16 : decode cX11_check 16 = .ok (.getfield 83, 3) := by decide +kernel
theorem dX11_check_19 : decode cX11_check 19 = .ok (.getfield 230, 3) := by decide +kernel
theorem dX11_check_22 : decode cX11_check 22 = .ok (.aload_n 0, 1) := by decide +kernel
theorem dX11_check_23 : decode cX11_check 23 = .ok (.getfield 83, 3) := by decide +kernel
theorem dX11_check_26 : decode cX11_check 26 = .ok (.getfield 143, 3) := by decide +kernel
theorem dX11_check_29 : decode cX11_check 29 = .ok (.invokevirtual 231, 3) := by decide +kernel
theorem dX11_check_32 : decode cX11_check 32 = .ok (.iload_n 1, 1) := by decide +kernel
theorem dX11_check_33 : decode cX11_check 33 = .ok (.ifCond .ne 13, 3) := by decide +kernel
theorem dX11_check_36 : decode cX11_check 36 = .ok (.aload_n 0, 1) := by decide +kernel
theorem dX11_check_37 : decode cX11_check 37 = .ok (.getfield 90, 3) := by decide +kernel
theorem dX11_check_40 : decode cX11_check 40 = .ok (.getfield 234, 3) := by decide +kernel
theorem dX11_check_43 : decode cX11_check 43 = .ok (.goto 10, 3) := by decide +kernel
theorem dX11_check_46 : decode cX11_check 46 = .ok (.aload_n 0, 1) := by decide +kernel
theorem dX11_check_47 : decode cX11_check 47 = .ok (.getfield 90, 3) := by decide +kernel
theorem dX11_check_50 : decode cX11_check 50 = .ok (.getfield 237, 3) := by decide +kernel
theorem dX11_check_53 : decode cX11_check 53 = .ok (.ireturn, 1) := by decide +kernel
def r_check0 (σ : Hp) (w : Int32) : Int32 := (if w = 0 then (if ¬ w = 0 then (-1) else 0) else (if w = 1 then (if ¬ w = 0 then (-1) else 0) else (-1)))
def t_check0 (σ : Hp) (w : Int32) : Hp := (if w = 0 then (t_look0 σ) else (if w = 1 then (t_look0 σ) else σ))
theorem w_check0 (d : Nat) (σ : Hp) (w : Int32) (hR : Rf σ) (ek : gI σ 56 8 = 0) (em : gI σ 50 3 = 0) : Cx yX11_check cX11_check 2 (some .int) (d + 4) 122 122 [.ref 0, .int w] σ (fun o τ => o = .inl (some (.int (r_check0 σ w))) ∧ τ = t_check0 σ w) := by
  refine Cx_of RX11 false (by decide) rfl (fun q => by cases q) (Nat.le_refl _) rfl (Nat.le_of_ble_eq_true rfl) ?_
  refine Wx_iload1 dX11_check_0 ?_
  refine Wx_if_eq 11 dX11_check_1 (by decide) (fun h1 => ?_) (fun h1 => ?_)
  ·
    refine Wx_aload0 dX11_check_11 ?_
    refine Wx_getR 11 14 56 dX11_check_12 f_X11_90 rfl (Nat.le_of_ble_eq_true rfl) rfl (hR 0 14 56 (by decide)) ?_
    refine Wx_aload0 dX11_check_15 ?_
    refine Wx_getR 11 13 50 dX11_check_16 f_X11_83 rfl (Nat.le_of_ble_eq_true rfl) rfl (hR 0 13 50 (by decide)) ?_
    refine Wx_getR 7 2 53 dX11_check_19 f_X11_230 rfl (Nat.le_of_ble_eq_true rfl) rfl (hR 50 2 53 (by decide)) ?_
    refine Wx_aload0 dX11_check_22 ?_
    refine Wx_getR 11 13 50 dX11_check_23 f_X11_83 rfl (Nat.le_of_ble_eq_true rfl) rfl (hR 0 13 50 (by decide)) ?_
    refine Wx_getI 7 3 dX11_check_26 f_X11_143 rfl (Nat.le_of_ble_eq_true rfl) rfl ?_
    rw [show gI σ 50 3 = 0 from em]
    have c2 := (w_look0 (d + 0) σ hR ek)
    refine Wx_cVv 56 2 [.ref 53, .int 0] 2 m_X2_look l_X11_231 i_X2_look rfl rfl (show 56 < 122 by decide) dX11_check_29 c2 (show _ ≤ d + 4 from Nat.le_refl _) (Nat.le_refl _) rfl (Nat.le_of_ble_eq_true rfl) rfl ?_
    clear c2
    refine Wx_iload1 dX11_check_32 ?_
    refine Wx_if_ne 46 dX11_check_33 (by decide) (fun h3 => ?_) (fun h3 => ?_)
    ·
      refine Wx_aload0 dX11_check_46 ?_
      refine Wx_getR 11 14 56 dX11_check_47 f_X11_90 rfl (Nat.le_of_ble_eq_true rfl) rfl ((Rf_look0 hR) 0 14 56 (by decide)) ?_
      refine Wx_getI 2 10 dX11_check_50 f_X11_237 rfl (Nat.le_of_ble_eq_true rfl) rfl ?_
      rw [show gI (t_look0 σ) 56 10 = (-1) from rfl]
      exact Wx_ireturn dX11_check_53 rfl rfl (⟨by rw [r_check0, if_pos h1, if_pos h3], by rw [t_check0, if_pos h1]⟩)
    ·
      refine Wx_aload0 dX11_check_36 ?_
      refine Wx_getR 11 14 56 dX11_check_37 f_X11_90 rfl (Nat.le_of_ble_eq_true rfl) rfl ((Rf_look0 hR) 0 14 56 (by decide)) ?_
      refine Wx_getI 2 9 dX11_check_40 f_X11_234 rfl (Nat.le_of_ble_eq_true rfl) rfl ?_
      rw [show gI (t_look0 σ) 56 9 = 0 from rfl]
      refine Wx_goto 53 dX11_check_43 (by decide) ?_
      exact Wx_ireturn dX11_check_53 rfl rfl (⟨by rw [r_check0, if_pos h1, if_neg h3], by rw [t_check0, if_pos h1]⟩)
  ·
    refine Wx_iload1 dX11_check_4 ?_
    refine Wx_iconst (v := 1) dX11_check_5 (by decide) ?_
    refine Wx_icmp_eq 11 dX11_check_6 (by decide) (fun h4 => ?_) (fun h4 => ?_)
    ·
      refine Wx_aload0 dX11_check_11 ?_
      refine Wx_getR 11 14 56 dX11_check_12 f_X11_90 rfl (Nat.le_of_ble_eq_true rfl) rfl (hR 0 14 56 (by decide)) ?_
      refine Wx_aload0 dX11_check_15 ?_
      refine Wx_getR 11 13 50 dX11_check_16 f_X11_83 rfl (Nat.le_of_ble_eq_true rfl) rfl (hR 0 13 50 (by decide)) ?_
      refine Wx_getR 7 2 53 dX11_check_19 f_X11_230 rfl (Nat.le_of_ble_eq_true rfl) rfl (hR 50 2 53 (by decide)) ?_
      refine Wx_aload0 dX11_check_22 ?_
      refine Wx_getR 11 13 50 dX11_check_23 f_X11_83 rfl (Nat.le_of_ble_eq_true rfl) rfl (hR 0 13 50 (by decide)) ?_
      refine Wx_getI 7 3 dX11_check_26 f_X11_143 rfl (Nat.le_of_ble_eq_true rfl) rfl ?_
      rw [show gI σ 50 3 = 0 from em]
      have c5 := (w_look0 (d + 0) σ hR ek)
      refine Wx_cVv 56 2 [.ref 53, .int 0] 2 m_X2_look l_X11_231 i_X2_look rfl rfl (show 56 < 122 by decide) dX11_check_29 c5 (show _ ≤ d + 4 from Nat.le_refl _) (Nat.le_refl _) rfl (Nat.le_of_ble_eq_true rfl) rfl ?_
      clear c5
      refine Wx_iload1 dX11_check_32 ?_
      refine Wx_if_ne 46 dX11_check_33 (by decide) (fun h6 => ?_) (fun h6 => ?_)
      ·
        refine Wx_aload0 dX11_check_46 ?_
        refine Wx_getR 11 14 56 dX11_check_47 f_X11_90 rfl (Nat.le_of_ble_eq_true rfl) rfl ((Rf_look0 hR) 0 14 56 (by decide)) ?_
        refine Wx_getI 2 10 dX11_check_50 f_X11_237 rfl (Nat.le_of_ble_eq_true rfl) rfl ?_
        rw [show gI (t_look0 σ) 56 10 = (-1) from rfl]
        exact Wx_ireturn dX11_check_53 rfl rfl (⟨by rw [r_check0, if_neg h1, if_pos h4, if_pos h6], by rw [t_check0, if_neg h1, if_pos h4]⟩)
      ·
        refine Wx_aload0 dX11_check_36 ?_
        refine Wx_getR 11 14 56 dX11_check_37 f_X11_90 rfl (Nat.le_of_ble_eq_true rfl) rfl ((Rf_look0 hR) 0 14 56 (by decide)) ?_
        refine Wx_getI 2 9 dX11_check_40 f_X11_234 rfl (Nat.le_of_ble_eq_true rfl) rfl ?_
        rw [show gI (t_look0 σ) 56 9 = 0 from rfl]
        refine Wx_goto 53 dX11_check_43 (by decide) ?_
        exact Wx_ireturn dX11_check_53 rfl rfl (⟨by rw [r_check0, if_neg h1, if_pos h4, if_neg h6], by rw [t_check0, if_neg h1, if_pos h4]⟩)
    ·
      refine Wx_iconst (v := (-1)) dX11_check_9 (by decide) ?_
      exact Wx_ireturn dX11_check_10 rfl rfl (⟨by rw [r_check0, if_neg h1, if_neg h4], by rw [t_check0, if_neg h1, if_neg h4]⟩)
theorem dX14_findGoals_0 : decode cX14_findGoals 0 = .ok (.iconst 0, 1) := by decide +kernel
theorem dX14_findGoals_1 : decode cX14_findGoals 1 = .ok (.istore_n 1, 1) := by decide +kernel
theorem dX14_findGoals_2 : decode cX14_findGoals 2 = .ok (.iload_n 1, 1) := by decide +kernel
theorem dX14_findGoals_3 : decode cX14_findGoals 3 = .ok (.ldc 117, 2) := by decide +kernel
theorem dX14_findGoals_5 : decode cX14_findGoals 5 = .ok (.if_icmp .ge 16, 3) := by decide +kernel
theorem dX14_findGoals_8 : decode cX14_findGoals 8 = .ok (.aload_n 0, 1) := by decide +kernel
theorem dX14_findGoals_9 : decode cX14_findGoals 9 = .ok (.getfield 131, 3) := by decide +kernel
theorem dX14_findGoals_12 : decode cX14_findGoals 12 = .ok (.iload_n 1, 1) := by decide +kernel
theorem dX14_findGoals_13 : decode cX14_findGoals 13 = .ok (.iconst 0, 1) := by decide +kernel
theorem dX14_findGoals_14 : decode cX14_findGoals 14 = .ok (.bastore, 1) := by decide +kernel
theorem dX14_findGoals_15 : decode cX14_findGoals 15 = .ok (.iinc 1 1, 3) := by decide +kernel
theorem dX14_findGoals_18 : decode cX14_findGoals 18 = .ok (.goto (-16), 3) := by decide +kernel
theorem dX14_findGoals_21 : decode cX14_findGoals 21 = .ok (.iconst 0, 1) := by decide +kernel
theorem dX14_findGoals_22 : decode cX14_findGoals 22 = .ok (.istore_n 1, 1) := by decide +kernel
theorem dX14_findGoals_23 : decode cX14_findGoals 23 = .ok (.iload_n 1, 1) := by decide +kernel
theorem dX14_findGoals_24 : decode cX14_findGoals 24 = .ok (.ldc 121, 2) := by decide +kernel
theorem dX14_findGoals_26 : decode cX14_findGoals 26 = .ok (.if_icmp .ge 16, 3) := by decide +kernel
theorem dX14_findGoals_29 : decode cX14_findGoals 29 = .ok (.aload_n 0, 1) := by decide +kernel
theorem dX14_findGoals_30 : decode cX14_findGoals 30 = .ok (.getfield 134, 3) := by decide +kernel
theorem dX14_findGoals_33 : decode cX14_findGoals 33 = .ok (.iload_n 1, 1) := by decide +kernel
theorem dX14_findGoals_34 : decode cX14_findGoals 34 = .ok (.iconst 0, 1) := by decide +kernel
theorem dX14_findGoals_35 : decode cX14_findGoals 35 = .ok (.bastore, 1) := by decide +kernel
theorem dX14_findGoals_36 : decode cX14_findGoals 36 = .ok (.iinc 1 1, 3) := by decide +kernel
theorem dX14_findGoals_39 : decode cX14_findGoals 39 = .ok (.goto (-16), 3) := by decide +kernel
theorem dX14_findGoals_42 : decode cX14_findGoals 42 = .ok (.iconst 0, 1) := by decide +kernel
theorem dX14_findGoals_43 : decode cX14_findGoals 43 = .ok (.istore_n 1, 1) := by decide +kernel
theorem dX14_findGoals_44 : decode cX14_findGoals 44 = .ok (.iload_n 1, 1) := by decide +kernel
theorem dX14_findGoals_45 : decode cX14_findGoals 45 = .ok (.aload_n 0, 1) := by decide +kernel
theorem dX14_findGoals_46 : decode cX14_findGoals 46 = .ok (.getfield 538, 3) := by decide +kernel
theorem dX14_findGoals_49 : decode cX14_findGoals 49 = .ok (.if_icmp .ge 59, 3) := by decide +kernel
theorem dX14_findGoals_52 : decode cX14_findGoals 52 = .ok (.aload_n 0, 1) := by decide +kernel
theorem dX14_findGoals_53 : decode cX14_findGoals 53 = .ok (.iload_n 1, 1) := by decide +kernel
theorem dX14_findGoals_54 : decode cX14_findGoals 54 = .ok (.invokevirtual 735, 3) := by decide +kernel
theorem dX14_findGoals_57 : decode cX14_findGoals 57 = .ok (.ifCond .eq 51, 3) := by decide +kernel
theorem dX14_findGoals_60 : decode cX14_findGoals 60 = .ok (.aload_n 0, 1) := by decide +kernel
theorem dX14_findGoals_61 : decode cX14_findGoals 61 = .ok (.getfield 131, 3) := by decide +kernel
theorem dX14_findGoals_64 : decode cX14_findGoals 64 = .ok (.iload_n 1, 1) := by decide +kernel
theorem dX14_findGoals_65 : decode cX14_findGoals 65 = .ok (.iconst 1, 1) := by decide +kernel
theorem dX14_findGoals_66 : decode cX14_findGoals 66 = .ok (.bastore, 1) := by decide +kernel
theorem dX14_findGoals_67 : decode cX14_findGoals 67 = .ok (.iload_n 1, 1) := by decide +kernel
theorem dX14_findGoals_68 : decode cX14_findGoals 68 = .ok (.aload_n 0, 1) := by decide +kernel
theorem dX14_findGoals_69 : decode cX14_findGoals 69 = .ok (.getfield 616, 3) := by decide +kernel
theorem dX14_findGoals_72 : decode cX14_findGoals 72 = .ok (.iadd, 1) := by decide +kernel
theorem dX14_findGoals_73 : decode cX14_findGoals 73 = .ok (.istore_n 1, 1) := by decide +kernel
theorem dX14_findGoals_74 : decode cX14_findGoals 74 = .ok (.iload_n 1, 1) := by decide +kernel
theorem dX14_findGoals_75 : decode cX14_findGoals 75 = .ok (.aload_n 0, 1) := by decide +kernel
theorem dX14_findGoals_76 : decode cX14_findGoals 76 = .ok (.getfield 589, 3) := by decide +kernel
theorem dX14_findGoals_79 : decode cX14_findGoals 79 = .ok (.iadd, 1) := by decide +kernel
theorem dX14_findGoals_80 : decode cX14_findGoals 80 = .ok (.istore_n 2, 1) := by decide +kernel
theorem dX14_findGoals_81 : decode cX14_findGoals 81 = .ok (.aload_n 0, 1) := by decide +kernel
theorem dX14_findGoals_82 : decode cX14_findGoals 82 = .ok (.invokevirtual 738, 3) := by decide +kernel
theorem dX14_findGoals_85 : decode cX14_findGoals 85 = .ok (.ifCond .eq 20, 3) := by decide +kernel
theorem dX14_findGoals_88 : decode cX14_findGoals 88 = .ok (.iload_n 2, 1) := by decide +kernel
theorem dX14_findGoals_89 : decode cX14_findGoals 89 = .ok (.ifCond .lt 16, 3) := by decide +kernel
theorem dX14_findGoals_92 : decode cX14_findGoals 92 = .ok (.iload_n 2, 1) := by decide +kernel
theorem dX14_findGoals_93 : decode cX14_findGoals 93 = .ok (.ldc 121, 2) := by decide +kernel
theorem dX14_findGoals_95 : decode cX14_findGoals 95 = .ok (.if_icmp .ge 10, 3) := by decide +kernel
theorem dX14_findGoals_98 : decode cX14_findGoals 98 = .ok (.aload_n 0, 1) := by decide +kernel
theorem dX14_findGoals_99 : decode cX14_findGoals 99 = .ok (.getfield 134, 3) := by decide +kernel
theorem dX14_findGoals_102 : decode cX14_findGoals 102 = .ok (.iload_n 2, 1) := by decide +kernel
theorem dX14_findGoals_103 : decode cX14_findGoals 103 = .ok (.iconst 1, 1) := by decide +kernel
theorem dX14_findGoals_104 : decode cX14_findGoals 104 = .ok (.bastore, 1) := by decide +kernel
theorem dX14_findGoals_105 : decode cX14_findGoals 105 = .ok (.goto (-61), 3) := by decide +kernel
theorem dX14_findGoals_108 : decode cX14_findGoals 108 = .ok (.return_, 1) := by decide +kernel
def t_findGoalsM0 (σ : Hp) : Hp := (rA (rA σ 114 (cpy (fun _ => (0 : Int32)) (gA σ 114) 61440)) 115 (cpy (fun _ => (0 : Int32)) (gA σ 115) 65536))
theorem k_findGoalsM0 (σ : Hp) : (t_findGoalsM0 σ).2.1 = σ.2.1 := by
  unfold t_findGoalsM0
  simp only [apply_ite Prod.snd, apply_ite (Prod.fst (α := Nat → Nat → Option Nat) (β := (Nat → Nat → Int32) × (Nat → Nat → Int64))), R_pI, R_pI, R_pA, R_pL, R_rA, ite_self]
theorem w_findGoalsM0 (d : Nat) (σ : Hp) (hR : Rf σ) (em : gI σ 66 50 = 0) : Cx yX14_findGoals cX14_findGoals 3 none (d) 122 122 [.ref 66] σ (fun o τ => o = .inl none ∧ τ = t_findGoalsM0 σ) := by
  refine Cx_of RX14 false (by decide) rfl (fun q => by cases q) (Nat.le_refl _) rfl (Nat.le_of_ble_eq_true rfl) ?_
  refine Wx_iconst (v := 0) dX14_findGoals_0 (by decide) ?_
  refine Wx_istore1 dX14_findGoals_1 rfl (Nat.le_of_ble_eq_true rfl) ?_
  refine Wx_eq (show σ = (rA σ 114 (cpy (fun _ => (0 : Int32)) (gA σ 114) 0)) from rA_cpy0r σ 114 _ rfl) ?_
  refine Wx_count (fun k1 => [.ref 66, .int (nI k1), .retAddr 0]) [] (fun k1 => (rA σ 114 (cpy (fun _ => (0 : Int32)) (gA σ 114) k1))) 0 61440 ?_ ?_ (by omega)
  · intro k1 hk1a hk1b Kk1
    refine Wx_iload1 dX14_findGoals_2 ?_
    refine Wx_ldc dX14_findGoals_3 k_X14_117 ?_
    refine Wx_icmp_ge 21 dX14_findGoals_5 (by decide) (fun h => absurd h (fun q => absurd ((cLe (a := 61440) (b := k1) rfl rfl (by omega) (by omega)).mp q) (by omega))) (fun _ => ?_)
    refine Wx_aload0 dX14_findGoals_8 ?_
    refine Wx_getR 14 73 114 dX14_findGoals_9 f_X14_131 rfl (Nat.le_of_ble_eq_true rfl) rfl ((Rf_rA hR) 66 73 114 (by decide)) ?_
    refine Wx_iload1 dX14_findGoals_12 ?_
    refine Wx_iconst (v := 0) dX14_findGoals_13 (by decide) ?_
    refine Wx_zastore 61440 dX14_findGoals_14 rfl (Nat.le_of_ble_eq_true rfl) (vp_in_nI (show k1 < 61440 by omega) (by decide)) (by decide) ?_
    rw [show ((nI k1) : Int32).toNatClampNeg = k1 from nI_clamp (by omega)]
    refine Wx_iinc1 dX14_findGoals_15 rfl (Nat.le_of_ble_eq_true rfl) ?_
    rw [show (((nI k1) : Int32) + Int32.ofInt 1) = nI (k1 + 1) from addE (a := k1) (b := 1) rfl rfl (by omega)]
    refine Wx_goto 2 dX14_findGoals_18 (by decide) ?_
    refine Wx_eq (show (pA (rA σ 114 (cpy (fun _ => (0 : Int32)) (gA σ 114) k1)) 114 k1 0) = (rA σ 114 (cpy (fun _ => (0 : Int32)) (gA σ 114) (k1 + 1))) from pA_cpy σ 114 k1 _ _ rfl) ?_
    exact Kk1
  ·
    refine Wx_iload1 dX14_findGoals_2 ?_
    refine Wx_ldc dX14_findGoals_3 k_X14_117 ?_
    refine Wx_icmp_ge 21 dX14_findGoals_5 (by decide) (fun _ => ?_) (fun h => absurd ((cLe (a := 61440) (b := 61440) rfl rfl (by omega) (by omega)).mpr (by omega)) h)
    refine Wx_iconst (v := 0) dX14_findGoals_21 (by decide) ?_
    refine Wx_istore1 dX14_findGoals_22 rfl (Nat.le_of_ble_eq_true rfl) ?_
    refine Wx_eq (show (rA σ 114 (cpy (fun _ => (0 : Int32)) (gA σ 114) 61440)) = (rA (rA σ 114 (cpy (fun _ => (0 : Int32)) (gA σ 114) 61440)) 115 (cpy (fun _ => (0 : Int32)) (gA σ 115) 0)) from rA_cpy0r (rA σ 114 (cpy (fun _ => (0 : Int32)) (gA σ 114) 61440)) 115 _ rfl) ?_
    refine Wx_count (fun k2 => [.ref 66, .int (nI k2), .retAddr 0]) [] (fun k2 => (rA (rA σ 114 (cpy (fun _ => (0 : Int32)) (gA σ 114) 61440)) 115 (cpy (fun _ => (0 : Int32)) (gA σ 115) k2))) 0 65536 ?_ ?_ (by omega)
    · intro k2 hk2a hk2b Kk2
      refine Wx_iload1 dX14_findGoals_23 ?_
      refine Wx_ldc dX14_findGoals_24 k_X14_121 ?_
      refine Wx_icmp_ge 42 dX14_findGoals_26 (by decide) (fun h => absurd h (fun q => absurd ((cLe (a := 65536) (b := k2) rfl rfl (by omega) (by omega)).mp q) (by omega))) (fun _ => ?_)
      refine Wx_aload0 dX14_findGoals_29 ?_
      refine Wx_getR 14 74 115 dX14_findGoals_30 f_X14_134 rfl (Nat.le_of_ble_eq_true rfl) rfl ((Rf_rA (Rf_rA hR)) 66 74 115 (by decide)) ?_
      refine Wx_iload1 dX14_findGoals_33 ?_
      refine Wx_iconst (v := 0) dX14_findGoals_34 (by decide) ?_
      refine Wx_zastore 65536 dX14_findGoals_35 rfl (Nat.le_of_ble_eq_true rfl) (vp_in_nI (show k2 < 65536 by omega) (by decide)) (by decide) ?_
      rw [show ((nI k2) : Int32).toNatClampNeg = k2 from nI_clamp (by omega)]
      refine Wx_iinc1 dX14_findGoals_36 rfl (Nat.le_of_ble_eq_true rfl) ?_
      rw [show (((nI k2) : Int32) + Int32.ofInt 1) = nI (k2 + 1) from addE (a := k2) (b := 1) rfl rfl (by omega)]
      refine Wx_goto 23 dX14_findGoals_39 (by decide) ?_
      refine Wx_eq (show (pA (rA (rA σ 114 (cpy (fun _ => (0 : Int32)) (gA σ 114) 61440)) 115 (cpy (fun _ => (0 : Int32)) (gA σ 115) k2)) 115 k2 0) = (rA (rA σ 114 (cpy (fun _ => (0 : Int32)) (gA σ 114) 61440)) 115 (cpy (fun _ => (0 : Int32)) (gA σ 115) (k2 + 1))) from pA_cpy (rA σ 114 (cpy (fun _ => (0 : Int32)) (gA σ 114) 61440)) 115 k2 _ _ rfl) ?_
      exact Kk2
    ·
      refine Wx_iload1 dX14_findGoals_23 ?_
      refine Wx_ldc dX14_findGoals_24 k_X14_121 ?_
      refine Wx_icmp_ge 42 dX14_findGoals_26 (by decide) (fun _ => ?_) (fun h => absurd ((cLe (a := 65536) (b := 65536) rfl rfl (by omega) (by omega)).mpr (by omega)) h)
      refine Wx_iconst (v := 0) dX14_findGoals_42 (by decide) ?_
      refine Wx_istore1 dX14_findGoals_43 rfl (Nat.le_of_ble_eq_true rfl) ?_
      refine Wx_iload1 dX14_findGoals_44 ?_
      refine Wx_aload0 dX14_findGoals_45 ?_
      refine Wx_getI 14 50 dX14_findGoals_46 f_X14_538 rfl (Nat.le_of_ble_eq_true rfl) rfl ?_
      rw [show gI (rA (rA σ 114 (cpy (fun _ => (0 : Int32)) (gA σ 114) 61440)) 115 (cpy (fun _ => (0 : Int32)) (gA σ 115) 65536)) 66 50 = 0 from (gI_rA.trans (gI_rA.trans em))]
      refine Wx_icmp_ge 108 dX14_findGoals_49 (by decide) (fun _ => ?_) (fun h => absurd (by decide) h)
      exact Wx_return dX14_findGoals_108 rfl rfl (⟨rfl, by rw [t_findGoalsM0]⟩)
theorem dX14_forget_0 : decode cX14_forget 0 = .ok (.iconst 0, 1) := by decide +kernel
theorem dX14_forget_1 : decode cX14_forget 1 = .ok (.istore_n 1, 1) := by decide +kernel
theorem dX14_forget_2 : decode cX14_forget 2 = .ok (.iload_n 1, 1) := by decide +kernel
theorem dX14_forget_3 : decode cX14_forget 3 = .ok (.bipush 8, 2) := by decide +kernel
theorem dX14_forget_5 : decode cX14_forget 5 = .ok (.if_icmp .ge 16, 3) := by decide +kernel
theorem dX14_forget_8 : decode cX14_forget 8 = .ok (.aload_n 0, 1) := by decide +kernel
theorem dX14_forget_9 : decode cX14_forget 9 = .ok (.getfield 137, 3) := by decide +kernel
theorem dX14_forget_12 : decode cX14_forget 12 = .ok (.iload_n 1, 1) := by decide +kernel
theorem dX14_forget_13 : decode cX14_forget 13 = .ok (.iconst (-1), 1) := by decide +kernel
theorem dX14_forget_14 : decode cX14_forget 14 = .ok (.iastore, 1) := by decide +kernel
theorem dX14_forget_15 : decode cX14_forget 15 = .ok (.iinc 1 1, 3) := by decide +kernel
theorem dX14_forget_18 : decode cX14_forget 18 = .ok (.goto (-16), 3) := by decide +kernel
theorem dX14_forget_21 : decode cX14_forget 21 = .ok (.return_, 1) := by decide +kernel
def t_forgetM (σ : Hp) : Hp := (rA σ 116 (cpy (fun _ => (-1 : Int32)) (gA σ 116) 8))
theorem k_forgetM (σ : Hp) : (t_forgetM σ).2.1 = σ.2.1 := by
  unfold t_forgetM
  simp only [apply_ite Prod.snd, apply_ite (Prod.fst (α := Nat → Nat → Option Nat) (β := (Nat → Nat → Int32) × (Nat → Nat → Int64))), R_pI, R_pI, R_pA, R_pL, R_rA, ite_self]
theorem w_forgetM (d : Nat) (σ : Hp) (hR : Rf σ) : Cx yX14_forget cX14_forget 2 none (d) 122 122 [.ref 66] σ (fun o τ => o = .inl none ∧ τ = t_forgetM σ) := by
  refine Cx_of RX14 false (by decide) rfl (fun q => by cases q) (Nat.le_refl _) rfl (Nat.le_of_ble_eq_true rfl) ?_
  refine Wx_iconst (v := 0) dX14_forget_0 (by decide) ?_
  refine Wx_istore1 dX14_forget_1 rfl (Nat.le_of_ble_eq_true rfl) ?_
  refine Wx_eq (show σ = (rA σ 116 (cpy (fun _ => (-1 : Int32)) (gA σ 116) 0)) from rA_cpy0r σ 116 _ rfl) ?_
  refine Wx_count (fun k => [.ref 66, .int (nI k)]) [] (fun k => (rA σ 116 (cpy (fun _ => (-1 : Int32)) (gA σ 116) k))) 0 8 ?_ ?_ (by omega)
  · intro k hka hkb Kk
    refine Wx_iload1 dX14_forget_2 ?_
    refine Wx_bipush (v := 8) dX14_forget_3 (by decide) ?_
    refine Wx_icmp_ge 21 dX14_forget_5 (by decide) (fun h => absurd h (fun q => absurd ((cLe (a := 8) (b := k) rfl rfl (by omega) (by omega)).mp q) (by omega))) (fun _ => ?_)
    refine Wx_aload0 dX14_forget_8 ?_
    refine Wx_getR 14 75 116 dX14_forget_9 f_X14_137 rfl (Nat.le_of_ble_eq_true rfl) rfl ((Rf_rA hR) 66 75 116 (by decide)) ?_
    refine Wx_iload1 dX14_forget_12 ?_
    refine Wx_iconst (v := (-1)) dX14_forget_13 (by decide) ?_
    refine Wx_iastore 8 dX14_forget_14 rfl (Nat.le_of_ble_eq_true rfl) (vp_in_nI (show k < 8 by omega) (by decide)) ?_
    rw [show ((nI k) : Int32).toNatClampNeg = k from nI_clamp (by omega)]
    refine Wx_iinc1 dX14_forget_15 rfl (Nat.le_of_ble_eq_true rfl) ?_
    rw [show (((nI k) : Int32) + Int32.ofInt 1) = nI (k + 1) from addE (a := k) (b := 1) rfl rfl (by omega)]
    refine Wx_goto 2 dX14_forget_18 (by decide) ?_
    refine Wx_eq (show (pA (rA σ 116 (cpy (fun _ => (-1 : Int32)) (gA σ 116) k)) 116 k (-1)) = (rA σ 116 (cpy (fun _ => (-1 : Int32)) (gA σ 116) (k + 1))) from pA_cpy σ 116 k _ _ rfl) ?_
    exact Kk
  ·
    refine Wx_iload1 dX14_forget_2 ?_
    refine Wx_bipush (v := 8) dX14_forget_3 (by decide) ?_
    refine Wx_icmp_ge 21 dX14_forget_5 (by decide) (fun _ => ?_) (fun h => absurd ((cLe (a := 8) (b := 8) rfl rfl (by omega) (by omega)).mpr (by omega)) h)
    exact Wx_return dX14_forget_21 rfl rfl (⟨rfl, by rw [t_forgetM]⟩)
theorem dX14_checked_0 : decode cX14_checked 0 = .ok (.aload_n 0, 1) := by decide +kernel
theorem dX14_checked_1 : decode cX14_checked 1 = .ok (.invokevirtual 758, 3) := by decide +kernel
theorem dX14_checked_4 : decode cX14_checked 4 = .ok (.aload_n 0, 1) := by decide +kernel
theorem dX14_checked_5 : decode cX14_checked 5 = .ok (.invokevirtual 761, 3) := by decide +kernel
theorem dX14_checked_8 : decode cX14_checked 8 = .ok (.aload_n 0, 1) := by decide +kernel
theorem dX14_checked_9 : decode cX14_checked 9 = .ok (.iconst (-1), 1) := by decide +kernel
theorem dX14_checked_10 : decode cX14_checked 10 = .ok (.putfield 749, 3) := by decide +kernel
theorem dX14_checked_13 : decode cX14_checked 13 = .ok (.aload_n 0, 1) := by decide +kernel
theorem dX14_checked_14 : decode cX14_checked 14 = .ok (.iconst (-1), 1) := by decide +kernel
theorem dX14_checked_15 : decode cX14_checked 15 = .ok (.putfield 746, 3) := by decide +kernel
theorem dX14_checked_18 : decode cX14_checked 18 = .ok (.iconst 0, 1) := by decide +kernel
theorem dX14_checked_19 : decode cX14_checked 19 = .ok (.istore_n 1, 1) := by decide +kernel
theorem dX14_checked_20 : decode cX14_checked 20 = .ok (.iconst 0, 1) := by decide +kernel
theorem dX14_checked_21 : decode cX14_checked 21 = .ok (.istore_n 2, 1) := by decide +kernel
theorem dX14_checked_22 : decode cX14_checked 22 = .ok (.iload_n 1, 1) := by decide +kernel
theorem dX14_checked_23 : decode cX14_checked 23 = .ok (.aload_n 0, 1) := by decide +kernel
theorem dX14_checked_24 : decode cX14_checked 24 = .ok (.getfield 538, 3) := by decide +kernel
theorem dX14_checked_27 : decode cX14_checked 27 = .ok (.if_icmp .ge 305, 3) := by decide +kernel
theorem dX14_checked_30 : decode cX14_checked 30 = .ok (.aload_n 0, 1) := by decide +kernel
theorem dX14_checked_31 : decode cX14_checked 31 = .ok (.iload_n 1, 1) := by decide +kernel
theorem dX14_checked_32 : decode cX14_checked 32 = .ok (.putfield 764, 3) := by decide +kernel
theorem dX14_checked_35 : decode cX14_checked 35 = .ok (.aload_n 0, 1) := by decide +kernel
theorem dX14_checked_36 : decode cX14_checked 36 = .ok (.iload_n 1, 1) := by decide +kernel
theorem dX14_checked_37 : decode cX14_checked 37 = .ok (.invokevirtual 735, 3) := by decide +kernel
theorem dX14_checked_40 : decode cX14_checked 40 = .ok (.ifCond .ne 5, 3) := by decide +kernel
theorem dX14_checked_43 : decode cX14_checked 43 = .ok (.iconst 1, 1) := by decide +kernel
theorem dX14_checked_44 : decode cX14_checked 44 = .ok (.ireturn, 1) := by decide +kernel
theorem dX14_checked_45 : decode cX14_checked 45 = .ok (.iload_n 1, 1) := by decide +kernel
theorem dX14_checked_46 : decode cX14_checked 46 = .ok (.bipush 32, 2) := by decide +kernel
theorem dX14_checked_48 : decode cX14_checked 48 = .ok (.idiv, 1) := by decide +kernel
theorem dX14_checked_49 : decode cX14_checked 49 = .ok (.iload_n 2, 1) := by decide +kernel
theorem dX14_checked_50 : decode cX14_checked 50 = .ok (.if_icmp .ne 12, 3) := by decide +kernel
theorem dX14_checked_53 : decode cX14_checked 53 = .ok (.aload_n 0, 1) := by decide +kernel
theorem dX14_checked_54 : decode cX14_checked 54 = .ok (.getfield 134, 3) := by decide +kernel
theorem dX14_checked_57 : decode cX14_checked 57 = .ok (.iload_n 1, 1) := by decide +kernel
theorem dX14_checked_58 : decode cX14_checked 58 = .ok (.baload, 1) := by decide +kernel
theorem dX14_checked_59 : decode cX14_checked 59 = .ok (.ifCond .eq 7, 3) := by decide +kernel
theorem dX14_checked_62 : decode cX14_checked 62 = .ok (.aload_n 0, 1) := by decide +kernel
theorem dX14_checked_63 : decode cX14_checked 63 = .ok (.invokevirtual 761, 3) := by decide +kernel
theorem dX14_checked_66 : decode cX14_checked 66 = .ok (.iload_n 1, 1) := by decide +kernel
theorem dX14_checked_67 : decode cX14_checked 67 = .ok (.bipush 32, 2) := by decide +kernel
theorem dX14_checked_69 : decode cX14_checked 69 = .ok (.idiv, 1) := by decide +kernel
theorem dX14_checked_70 : decode cX14_checked 70 = .ok (.istore_n 2, 1) := by decide +kernel
theorem dX14_checked_71 : decode cX14_checked 71 = .ok (.aload_n 0, 1) := by decide +kernel
theorem dX14_checked_72 : decode cX14_checked 72 = .ok (.iload_n 1, 1) := by decide +kernel
theorem dX14_checked_73 : decode cX14_checked 73 = .ok (.invokevirtual 767, 3) := by decide +kernel
theorem dX14_checked_76 : decode cX14_checked 76 = .ok (.istore_n 3, 1) := by decide +kernel
theorem dX14_checked_77 : decode cX14_checked 77 = .ok (.iload_n 3, 1) := by decide +kernel
theorem dX14_checked_78 : decode cX14_checked 78 = .ok (.ifCond .eq 5, 3) := by decide +kernel
theorem dX14_checked_81 : decode cX14_checked 81 = .ok (.iload_n 3, 1) := by decide +kernel
theorem dX14_checked_82 : decode cX14_checked 82 = .ok (.ireturn, 1) := by decide +kernel
theorem dX14_checked_83 : decode cX14_checked 83 = .ok (.aload_n 0, 1) := by decide +kernel
theorem dX14_checked_84 : decode cX14_checked 84 = .ok (.getfield 580, 3) := by decide +kernel
theorem dX14_checked_87 : decode cX14_checked 87 = .ok (.iconst 1, 1) := by decide +kernel
theorem dX14_checked_88 : decode cX14_checked 88 = .ok (.if_icmp .ne 64, 3) := by decide +kernel
theorem dX14_checked_91 : decode cX14_checked 91 = .ok (.aload_n 0, 1) := by decide +kernel
theorem dX14_checked_92 : decode cX14_checked 92 = .ok (.getfield 583, 3) := by decide +kernel
theorem dX14_checked_95 : decode cX14_checked 95 = .ok (.ifCond .ne 57, 3) := by decide +kernel
theorem dX14_checked_98 : decode cX14_checked 98 = .ok (.aload_n 0, 1) := by decide +kernel
theorem dX14_checked_99 : decode cX14_checked 99 = .ok (.getfield 586, 3) := by decide +kernel
theorem dX14_checked_102 : decode cX14_checked 102 = .ok (.ifCond .eq 50, 3) := by decide +kernel
theorem dX14_checked_105 : decode cX14_checked 105 = .ok (.aload_n 0, 1) := by decide +kernel
theorem dX14_checked_106 : decode cX14_checked 106 = .ok (.iload_n 1, 1) := by decide +kernel
theorem dX14_checked_107 : decode cX14_checked 107 = .ok (.invokevirtual 770, 3) := by decide +kernel
theorem dX14_checked_110 : decode cX14_checked 110 = .ok (.ifCond .eq 42, 3) := by decide +kernel
theorem dX14_checked_113 : decode cX14_checked 113 = .ok (.aload_n 0, 1) := by decide +kernel
theorem dX14_checked_114 : decode cX14_checked 114 = .ok (.getfield 571, 3) := by decide +kernel
theorem dX14_checked_117 : decode cX14_checked 117 = .ok (.ifCond .eq 35, 3) := by decide +kernel
theorem dX14_checked_120 : decode cX14_checked 120 = .ok (.aload_n 0, 1) := by decide +kernel
theorem dX14_checked_121 : decode cX14_checked 121 = .ok (.getfield 589, 3) := by decide +kernel
theorem dX14_checked_124 : decode cX14_checked 124 = .ok (.ldc 121, 2) := by decide +kernel
theorem dX14_checked_126 : decode cX14_checked 126 = .ok (.if_icmp .ne 26, 3) := by decide +kernel
theorem dX14_checked_129 : decode cX14_checked 129 = .ok (.aload_n 0, 1) := by decide +kernel
theorem dX14_checked_130 : decode cX14_checked 130 = .ok (.getfield 749, 3) := by decide +kernel
theorem dX14_checked_133 : decode cX14_checked 133 = .ok (.aload_n 0, 1) := by decide +kernel
theorem dX14_checked_134 : decode cX14_checked 134 = .ok (.getfield 556, 3) := by decide +kernel
theorem dX14_checked_137 : decode cX14_checked 137 = .ok (.if_icmp .ne 15, 3) := by decide +kernel
theorem dX14_checked_140 : decode cX14_checked 140 = .ok (.aload_n 0, 1) := by decide +kernel
theorem dX14_checked_141 : decode cX14_checked 141 = .ok (.getfield 746, 3) := by decide +kernel
theorem dX14_checked_144 : decode cX14_checked 144 = .ok (.iconst (-1), 1) := by decide +kernel
theorem dX14_checked_145 : decode cX14_checked 145 = .ok (.if_icmp .ne 7, 3) := by decide +kernel
theorem dX14_checked_148 : decode cX14_checked 148 = .ok (.iconst 1, 1) := by decide +kernel
theorem dX14_checked_149 : decode cX14_checked 149 = .ok (.goto 4, 3) := by decide +kernel
theorem dX14_checked_152 : decode cX14_checked 152 = .ok (.iconst 0, 1) := by decide +kernel
theorem dX14_checked_153 : decode cX14_checked 153 = .ok (.istore 4, 2) := by decide +kernel
theorem dX14_checked_155 : decode cX14_checked 155 = .ok (.iload 4, 2) := by decide +kernel
theorem dX14_checked_157 : decode cX14_checked 157 = .ok (.ifCond .eq 19, 3) := by decide +kernel
theorem dX14_checked_160 : decode cX14_checked 160 = .ok (.aload_n 0, 1) := by decide +kernel
theorem dX14_checked_161 : decode cX14_checked 161 = .ok (.aload_n 0, 1) := by decide +kernel
theorem dX14_checked_162 : decode cX14_checked 162 = .ok (.getfield 556, 3) := by decide +kernel
theorem dX14_checked_165 : decode cX14_checked 165 = .ok (.putfield 746, 3) := by decide +kernel
theorem dX14_checked_168 : decode cX14_checked 168 = .ok (.aload_n 0, 1) := by decide +kernel
theorem dX14_checked_169 : decode cX14_checked 169 = .ok (.iload_n 1, 1) := by decide +kernel
theorem dX14_checked_170 : decode cX14_checked 170 = .ok (.putfield 755, 3) := by decide +kernel
theorem dX14_checked_173 : decode cX14_checked 173 = .ok (.goto 79, 3) := by decide +kernel
theorem dX14_checked_176 : decode cX14_checked 176 = .ok (.aload_n 0, 1) := by decide +kernel
theorem dX14_checked_177 : decode cX14_checked 177 = .ok (.invokevirtual 773, 3) := by decide +kernel
theorem dX14_checked_180 : decode cX14_checked 180 = .ok (.ifCond .eq 42, 3) := by decide +kernel
theorem dX14_checked_183 : decode cX14_checked 183 = .ok (.aload_n 0, 1) := by decide +kernel
theorem dX14_checked_184 : decode cX14_checked 184 = .ok (.iload_n 1, 1) := by decide +kernel
theorem dX14_checked_185 : decode cX14_checked 185 = .ok (.invokevirtual 770, 3) := by decide +kernel
theorem dX14_checked_188 : decode cX14_checked 188 = .ok (.ifCond .eq 34, 3) := by decide +kernel
theorem dX14_checked_191 : decode cX14_checked 191 = .ok (.aload_n 0, 1) := by decide +kernel
theorem dX14_checked_192 : decode cX14_checked 192 = .ok (.getfield 589, 3) := by decide +kernel
theorem dX14_checked_195 : decode cX14_checked 195 = .ok (.ifCond .lt 27, 3) := by decide +kernel
theorem dX14_checked_198 : decode cX14_checked 198 = .ok (.aload_n 0, 1) := by decide +kernel
theorem dX14_checked_199 : decode cX14_checked 199 = .ok (.getfield 589, 3) := by decide +kernel
theorem dX14_checked_202 : decode cX14_checked 202 = .ok (.ldc_w 431, 3) := by decide +kernel
theorem dX14_checked_205 : decode cX14_checked 205 = .ok (.if_icmp .gt 17, 3) := by decide +kernel
theorem dX14_checked_208 : decode cX14_checked 208 = .ok (.aload_n 0, 1) := by decide +kernel
theorem dX14_checked_209 : decode cX14_checked 209 = .ok (.getfield 589, 3) := by decide +kernel
theorem dX14_checked_212 : decode cX14_checked 212 = .ok (.bipush 32, 2) := by decide +kernel
theorem dX14_checked_214 : decode cX14_checked 214 = .ok (.irem, 1) := by decide +kernel
theorem dX14_checked_215 : decode cX14_checked 215 = .ok (.ifCond .ne 7, 3) := by decide +kernel
theorem dX14_checked_218 : decode cX14_checked 218 = .ok (.iconst 1, 1) := by decide +kernel
theorem dX14_checked_219 : decode cX14_checked 219 = .ok (.goto 4, 3) := by decide +kernel
theorem dX14_checked_222 : decode cX14_checked 222 = .ok (.iconst 0, 1) := by decide +kernel
theorem dX14_checked_223 : decode cX14_checked 223 = .ok (.istore 5, 2) := by decide +kernel
theorem dX14_checked_225 : decode cX14_checked 225 = .ok (.aload_n 0, 1) := by decide +kernel
theorem dX14_checked_226 : decode cX14_checked 226 = .ok (.iload 5, 2) := by decide +kernel
theorem dX14_checked_228 : decode cX14_checked 228 = .ok (.ifCond .eq 10, 3) := by decide +kernel
theorem dX14_checked_231 : decode cX14_checked 231 = .ok (.aload_n 0, 1) := by decide +kernel
theorem dX14_checked_232 : decode cX14_checked 232 = .ok (.getfield 556, 3) := by decide +kernel
theorem dX14_checked_235 : decode cX14_checked 235 = .ok (.goto 4, 3) := by decide +kernel
theorem dX14_checked_238 : decode cX14_checked 238 = .ok (.iconst (-1), 1) := by decide +kernel
theorem dX14_checked_239 : decode cX14_checked 239 = .ok (.putfield 749, 3) := by decide +kernel
theorem dX14_checked_242 : decode cX14_checked 242 = .ok (.aload_n 0, 1) := by decide +kernel
theorem dX14_checked_243 : decode cX14_checked 243 = .ok (.iload_n 1, 1) := by decide +kernel
theorem dX14_checked_244 : decode cX14_checked 244 = .ok (.putfield 752, 3) := by decide +kernel
theorem dX14_checked_247 : decode cX14_checked 247 = .ok (.aload_n 0, 1) := by decide +kernel
theorem dX14_checked_248 : decode cX14_checked 248 = .ok (.iconst (-1), 1) := by decide +kernel
theorem dX14_checked_249 : decode cX14_checked 249 = .ok (.putfield 746, 3) := by decide +kernel
theorem dX14_checked_252 : decode cX14_checked 252 = .ok (.iconst 0, 1) := by decide +kernel
theorem dX14_checked_253 : decode cX14_checked 253 = .ok (.istore 5, 2) := by decide +kernel
theorem dX14_checked_255 : decode cX14_checked 255 = .ok (.iload 5, 2) := by decide +kernel
theorem dX14_checked_257 : decode cX14_checked 257 = .ok (.bipush 8, 2) := by decide +kernel
theorem dX14_checked_259 : decode cX14_checked 259 = .ok (.if_icmp .ge 26, 3) := by decide +kernel
theorem dX14_checked_262 : decode cX14_checked 262 = .ok (.aload_n 0, 1) := by decide +kernel
theorem dX14_checked_263 : decode cX14_checked 263 = .ok (.iload 5, 2) := by decide +kernel
theorem dX14_checked_265 : decode cX14_checked 265 = .ok (.invokevirtual 776, 3) := by decide +kernel
theorem dX14_checked_268 : decode cX14_checked 268 = .ok (.ifCond .eq 11, 3) := by decide +kernel
theorem dX14_checked_271 : decode cX14_checked 271 = .ok (.aload_n 0, 1) := by decide +kernel
theorem dX14_checked_272 : decode cX14_checked 272 = .ok (.getfield 137, 3) := by decide +kernel
theorem dX14_checked_275 : decode cX14_checked 275 = .ok (.iload 5, 2) := by decide +kernel
theorem dX14_checked_277 : decode cX14_checked 277 = .ok (.iconst (-1), 1) := by decide +kernel
theorem dX14_checked_278 : decode cX14_checked 278 = .ok (.iastore, 1) := by decide +kernel
theorem dX14_checked_279 : decode cX14_checked 279 = .ok (.iinc 5 1, 3) := by decide +kernel
theorem dX14_checked_282 : decode cX14_checked 282 = .ok (.goto (-27), 3) := by decide +kernel
theorem dX14_checked_285 : decode cX14_checked 285 = .ok (.aload_n 0, 1) := by decide +kernel
theorem dX14_checked_286 : decode cX14_checked 286 = .ok (.invokevirtual 773, 3) := by decide +kernel
theorem dX14_checked_289 : decode cX14_checked 289 = .ok (.ifCond .eq 33, 3) := by decide +kernel
theorem dX14_checked_292 : decode cX14_checked 292 = .ok (.aload_n 0, 1) := by decide +kernel
theorem dX14_checked_293 : decode cX14_checked 293 = .ok (.getfield 589, 3) := by decide +kernel
theorem dX14_checked_296 : decode cX14_checked 296 = .ok (.ifCond .lt 26, 3) := by decide +kernel
theorem dX14_checked_299 : decode cX14_checked 299 = .ok (.aload_n 0, 1) := by decide +kernel
theorem dX14_checked_300 : decode cX14_checked 300 = .ok (.getfield 589, 3) := by decide +kernel
theorem dX14_checked_303 : decode cX14_checked 303 = .ok (.ldc_w 423, 3) := by decide +kernel
theorem dX14_checked_306 : decode cX14_checked 306 = .ok (.if_icmp .gt 16, 3) := by decide +kernel
theorem dX14_checked_309 : decode cX14_checked 309 = .ok (.aload_n 0, 1) := by decide +kernel
theorem dX14_checked_310 : decode cX14_checked 310 = .ok (.getfield 137, 3) := by decide +kernel
theorem dX14_checked_313 : decode cX14_checked 313 = .ok (.aload_n 0, 1) := by decide +kernel
theorem dX14_checked_314 : decode cX14_checked 314 = .ok (.getfield 556, 3) := by decide +kernel
theorem dX14_checked_317 : decode cX14_checked 317 = .ok (.aload_n 0, 1) := by decide +kernel
theorem dX14_checked_318 : decode cX14_checked 318 = .ok (.getfield 589, 3) := by decide +kernel
theorem dX14_checked_321 : decode cX14_checked 321 = .ok (.iastore, 1) := by decide +kernel
theorem dX14_checked_322 : decode cX14_checked 322 = .ok (.iload_n 1, 1) := by decide +kernel
theorem dX14_checked_323 : decode cX14_checked 323 = .ok (.aload_n 0, 1) := by decide +kernel
theorem dX14_checked_324 : decode cX14_checked 324 = .ok (.getfield 616, 3) := by decide +kernel
theorem dX14_checked_327 : decode cX14_checked 327 = .ok (.iadd, 1) := by decide +kernel
theorem dX14_checked_328 : decode cX14_checked 328 = .ok (.istore_n 1, 1) := by decide +kernel
theorem dX14_checked_329 : decode cX14_checked 329 = .ok (.goto (-307), 3) := by decide +kernel
theorem dX14_checked_332 : decode cX14_checked 332 = .ok (.aload_n 0, 1) := by decide +kernel
theorem dX14_checked_333 : decode cX14_checked 333 = .ok (.iconst (-1), 1) := by decide +kernel
theorem dX14_checked_334 : decode cX14_checked 334 = .ok (.putfield 764, 3) := by decide +kernel
theorem dX14_checked_337 : decode cX14_checked 337 = .ok (.iconst 0, 1) := by decide +kernel
theorem dX14_checked_338 : decode cX14_checked 338 = .ok (.ireturn, 1) := by decide +kernel
def r_checked0 (σ : Hp) : Int32 := 0
def t_checked0 (σ : Hp) : Hp := (pI (pI (pI (t_forgetM (t_findGoalsM0 σ)) 66 76 (-1)) 66 78 (-1)) 66 80 (-1))
theorem k_checked0 (σ : Hp) : (t_checked0 σ).2.1 = σ.2.1 := by
  unfold t_checked0
  simp only [apply_ite Prod.snd, apply_ite (Prod.fst (α := Nat → Nat → Option Nat) (β := (Nat → Nat → Int32) × (Nat → Nat → Int64))), k_findGoalsM0, k_forgetM, R_pI, R_pA, R_pL, R_rA, ite_self]
theorem w_checked0 (d : Nat) (σ : Hp) (hR : Rf σ) (em : gI σ 66 50 = 0) : Cx yX14_checked cX14_checked 6 (some .int) (d + 1) 122 122 [.ref 66] σ (fun o τ => o = .inl (some (.int (r_checked0 σ))) ∧ τ = t_checked0 σ) := by
  refine Cx_of RX14 false (by decide) rfl (fun q => by cases q) (Nat.le_refl _) rfl (Nat.le_of_ble_eq_true rfl) ?_
  refine Wx_aload0 dX14_checked_0 ?_
  have c1 := (w_findGoalsM0 d σ hR em)
  refine Wx_cVv 66 14 [] 0 m_X14_findGoals l_X14_758 i_X14_findGoals rfl rfl (show 66 < 122 by decide) dX14_checked_1 c1 (show _ ≤ d + 1 from Nat.le_refl _) (Nat.le_refl _) rfl (Nat.le_of_ble_eq_true rfl) rfl ?_
  clear c1
  refine Wx_aload0 dX14_checked_4 ?_
  have c2 := (w_forgetM (d + 0) (t_findGoalsM0 σ) (Rf_of (k_findGoalsM0 σ) hR))
  refine Wx_cVv 66 14 [] 0 m_X14_forget l_X14_761 i_X14_forget rfl rfl (show 66 < 122 by decide) dX14_checked_5 c2 (show _ ≤ d + 1 from Nat.le_refl _) (Nat.le_refl _) rfl (Nat.le_of_ble_eq_true rfl) rfl ?_
  clear c2
  refine Wx_aload0 dX14_checked_8 ?_
  refine Wx_iconst (v := (-1)) dX14_checked_9 (by decide) ?_
  refine Wx_putI 14 76 dX14_checked_10 f_X14_749 rfl (Nat.le_of_ble_eq_true rfl) rfl rfl ?_
  refine Wx_aload0 dX14_checked_13 ?_
  refine Wx_iconst (v := (-1)) dX14_checked_14 (by decide) ?_
  refine Wx_putI 14 78 dX14_checked_15 f_X14_746 rfl (Nat.le_of_ble_eq_true rfl) rfl rfl ?_
  refine Wx_iconst (v := 0) dX14_checked_18 (by decide) ?_
  refine Wx_istore1 dX14_checked_19 rfl (Nat.le_of_ble_eq_true rfl) ?_
  refine Wx_iconst (v := 0) dX14_checked_20 (by decide) ?_
  refine Wx_istore2 dX14_checked_21 rfl (Nat.le_of_ble_eq_true rfl) ?_
  refine Wx_iload1 dX14_checked_22 ?_
  refine Wx_aload0 dX14_checked_23 ?_
  refine Wx_getI 14 50 dX14_checked_24 f_X14_538 rfl (Nat.le_of_ble_eq_true rfl) rfl ?_
  rw [show gI (pI (pI (t_forgetM (t_findGoalsM0 σ)) 66 76 (-1)) 66 78 (-1)) 66 50 = 0 from (by simp only [t_findGoalsM0, t_forgetM, gI_rA, gI_pI, ne_eq, Nat.reduceEqDiff, not_false_eq_true, and_true, and_false, false_and]; exact em)]
  refine Wx_icmp_ge 332 dX14_checked_27 (by decide) (fun _ => ?_) (fun h => absurd (by decide) h)
  refine Wx_aload0 dX14_checked_332 ?_
  refine Wx_iconst (v := (-1)) dX14_checked_333 (by decide) ?_
  refine Wx_putI 14 80 dX14_checked_334 f_X14_764 rfl (Nat.le_of_ble_eq_true rfl) rfl rfl ?_
  refine Wx_iconst (v := 0) dX14_checked_337 (by decide) ?_
  exact Wx_ireturn dX14_checked_338 rfl rfl (⟨by rw [r_checked0], by rw [t_checked0]⟩)
theorem dX14_check_0 : decode cX14_check 0 = .ok (.iload_n 1, 1) := by decide +kernel
theorem dX14_check_1 : decode cX14_check 1 = .ok (.ifCond .eq 10, 3) := by decide +kernel
theorem dX14_check_4 : decode cX14_check 4 = .ok (.iload_n 1, 1) := by decide +kernel
theorem dX14_check_5 : decode cX14_check 5 = .ok (.iconst 1, 1) := by decide +kernel
theorem dX14_check_6 : decode cX14_check 6 = .ok (.if_icmp .eq 5, 3) := by decide +kernel
theorem dX14_check_9 : decode cX14_check 9 = .ok (.iconst (-1), 1) := by decide +kernel
theorem dX14_check_10 : decode cX14_check 10 = .ok (.ireturn, 1) := by decide +kernel
theorem dX14_check_11 : decode cX14_check 11 = .ok (.aload_n 0, 1) := by decide +kernel
theorem dX14_check_12 : decode cX14_check 12 = .ok (.invokevirtual 779, 3) := by decide +kernel
theorem dX14_check_15 : decode cX14_check 15 = .ok (.istore_n 2, 1) := by decide +kernel
theorem dX14_check_16 : decode cX14_check 16 = .ok (.iload_n 1, 1) := by decide +kernel
theorem dX14_check_17 : decode cX14_check 17 = .ok (.ifCond .ne 7, 3) := by decide +kernel
theorem dX14_check_20 : decode cX14_check 20 = .ok (.iload_n 2, 1) := by decide +kernel
theorem dX14_check_21 : decode cX14_check 21 = .ok (.goto 7, 3) := by decide +kernel
theorem dX14_check_24 : decode cX14_check 24 = .ok (.aload_n 0, 1) := by decide +kernel
theorem dX14_check_25 : decode cX14_check 25 = .ok (.getfield 764, 3) := by decide +kernel
theorem dX14_check_28 : decode cX14_check 28 = .ok (.ireturn, 1) := by decide +kernel
def r_checkM0 (σ : Hp) (w : Int32) : Int32 := (if w = 0 then (if ¬ w = 0 then (-1) else 0) else (if w = 1 then (if ¬ w = 0 then (-1) else 0) else (-1)))
def t_checkM0 (σ : Hp) (w : Int32) : Hp := (if w = 0 then (t_checked0 σ) else (if w = 1 then (t_checked0 σ) else σ))
theorem k_checkM0 (σ : Hp) (w : Int32) : (t_checkM0 σ w).2.1 = σ.2.1 := by
  unfold t_checkM0
  simp only [apply_ite Prod.snd, apply_ite (Prod.fst (α := Nat → Nat → Option Nat) (β := (Nat → Nat → Int32) × (Nat → Nat → Int64))), k_checked0, R_pI, R_pA, R_pL, R_rA, ite_self]
theorem w_checkM0 (d : Nat) (σ : Hp) (w : Int32) (hR : Rf σ) (em : gI σ 66 50 = 0) : Cx yX14_check cX14_check 3 (some .int) (d + 2) 122 122 [.ref 66, .int w] σ (fun o τ => o = .inl (some (.int (r_checkM0 σ w))) ∧ τ = t_checkM0 σ w) := by
  refine Cx_of RX14 false (by decide) rfl (fun q => by cases q) (Nat.le_refl _) rfl (Nat.le_of_ble_eq_true rfl) ?_
  refine Wx_iload1 dX14_check_0 ?_
  refine Wx_if_eq 11 dX14_check_1 (by decide) (fun h1 => ?_) (fun h1 => ?_)
  ·
    refine Wx_aload0 dX14_check_11 ?_
    have c2 := (w_checked0 d σ hR em)
    refine Wx_cVi 66 14 [] 0 m_X14_checked l_X14_779 i_X14_checked rfl rfl (show 66 < 122 by decide) dX14_check_12 c2 (show _ ≤ d + 2 from Nat.le_refl _) (Nat.le_refl _) rfl (Nat.le_of_ble_eq_true rfl) rfl ?_
    rw [show (r_checked0 σ) = 0 from rfl]
    clear c2
    refine Wx_istore2 dX14_check_15 rfl (Nat.le_of_ble_eq_true rfl) ?_
    refine Wx_iload1 dX14_check_16 ?_
    refine Wx_if_ne 24 dX14_check_17 (by decide) (fun h3 => ?_) (fun h3 => ?_)
    ·
      refine Wx_aload0 dX14_check_24 ?_
      refine Wx_getI 14 80 dX14_check_25 f_X14_764 rfl (Nat.le_of_ble_eq_true rfl) rfl ?_
      rw [show gI (t_checked0 σ) 66 80 = (-1) from gI_pIs]
      exact Wx_ireturn dX14_check_28 rfl rfl (⟨by rw [r_checkM0, if_pos h1, if_pos h3], by rw [t_checkM0, if_pos h1]⟩)
    ·
      refine Wx_iload2 dX14_check_20 ?_
      refine Wx_goto 28 dX14_check_21 (by decide) ?_
      exact Wx_ireturn dX14_check_28 rfl rfl (⟨by rw [r_checkM0, if_pos h1, if_neg h3], by rw [t_checkM0, if_pos h1]⟩)
  ·
    refine Wx_iload1 dX14_check_4 ?_
    refine Wx_iconst (v := 1) dX14_check_5 (by decide) ?_
    refine Wx_icmp_eq 11 dX14_check_6 (by decide) (fun h4 => ?_) (fun h4 => ?_)
    ·
      refine Wx_aload0 dX14_check_11 ?_
      have c5 := (w_checked0 d σ hR em)
      refine Wx_cVi 66 14 [] 0 m_X14_checked l_X14_779 i_X14_checked rfl rfl (show 66 < 122 by decide) dX14_check_12 c5 (show _ ≤ d + 2 from Nat.le_refl _) (Nat.le_refl _) rfl (Nat.le_of_ble_eq_true rfl) rfl ?_
      rw [show (r_checked0 σ) = 0 from rfl]
      clear c5
      refine Wx_istore2 dX14_check_15 rfl (Nat.le_of_ble_eq_true rfl) ?_
      refine Wx_iload1 dX14_check_16 ?_
      refine Wx_if_ne 24 dX14_check_17 (by decide) (fun h6 => ?_) (fun h6 => ?_)
      ·
        refine Wx_aload0 dX14_check_24 ?_
        refine Wx_getI 14 80 dX14_check_25 f_X14_764 rfl (Nat.le_of_ble_eq_true rfl) rfl ?_
        rw [show gI (t_checked0 σ) 66 80 = (-1) from gI_pIs]
        exact Wx_ireturn dX14_check_28 rfl rfl (⟨by rw [r_checkM0, if_neg h1, if_pos h4, if_pos h6], by rw [t_checkM0, if_neg h1, if_pos h4]⟩)
      ·
        refine Wx_iload2 dX14_check_20 ?_
        refine Wx_goto 28 dX14_check_21 (by decide) ?_
        exact Wx_ireturn dX14_check_28 rfl rfl (⟨by rw [r_checkM0, if_neg h1, if_pos h4, if_neg h6], by rw [t_checkM0, if_neg h1, if_pos h4]⟩)
    ·
      refine Wx_iconst (v := (-1)) dX14_check_9 (by decide) ?_
      exact Wx_ireturn dX14_check_10 rfl rfl (⟨by rw [r_checkM0, if_neg h1, if_neg h4], by rw [t_checkM0, if_neg h1, if_neg h4]⟩)
theorem dX7_makeSteps_0 : decode cX7_makeSteps 0 = .ok (.iconst 0, 1) := by decide +kernel
theorem dX7_makeSteps_1 : decode cX7_makeSteps 1 = .ok (.istore_n 2, 1) := by decide +kernel
theorem dX7_makeSteps_2 : decode cX7_makeSteps 2 = .ok (.iload_n 2, 1) := by decide +kernel
theorem dX7_makeSteps_3 : decode cX7_makeSteps 3 = .ok (.iload_n 1, 1) := by decide +kernel
theorem dX7_makeSteps_4 : decode cX7_makeSteps 4 = .ok (.if_icmp .ge 46, 3) := by decide +kernel
theorem dX7_makeSteps_7 : decode cX7_makeSteps 7 = .ok (.aload_n 0, 1) := by decide +kernel
theorem dX7_makeSteps_8 : decode cX7_makeSteps 8 = .ok (.getfield 40, 3) := by decide +kernel
theorem dX7_makeSteps_11 : decode cX7_makeSteps 11 = .ok (.ifCond .ne 39, 3) := by decide +kernel
theorem dX7_makeSteps_14 : decode cX7_makeSteps 14 = .ok (.aload_n 0, 1) := by decide +kernel
theorem dX7_makeSteps_15 : decode cX7_makeSteps 15 = .ok (.invokevirtual 93, 3) := by decide +kernel
theorem dX7_makeSteps_18 : decode cX7_makeSteps 18 = .ok (.ifCond .eq 32, 3) := by decide +kernel
theorem dX7_makeSteps_21 : decode cX7_makeSteps 21 = .ok (.iinc 2 1, 3) := by decide +kernel
theorem dX7_makeSteps_24 : decode cX7_makeSteps 24 = .ok (.aload_n 0, 1) := by decide +kernel
theorem dX7_makeSteps_25 : decode cX7_makeSteps 25 = .ok (.getfield 9, 3) := by decide +kernel
theorem dX7_makeSteps_28 : decode cX7_makeSteps 28 = .ok (.iconst 5, 1) := by decide +kernel
theorem dX7_makeSteps_29 : decode cX7_makeSteps 29 = .ok (.iaload, 1) := by decide +kernel
theorem dX7_makeSteps_30 : decode cX7_makeSteps 30 = .ok (.aload_n 0, 1) := by decide +kernel
theorem dX7_makeSteps_31 : decode cX7_makeSteps 31 = .ok (.getfield 43, 3) := by decide +kernel
theorem dX7_makeSteps_34 : decode cX7_makeSteps 34 = .ok (.if_icmp .ge (-32), 3) := by decide +kernel
theorem dX7_makeSteps_37 : decode cX7_makeSteps 37 = .ok (.aload_n 0, 1) := by decide +kernel
theorem dX7_makeSteps_38 : decode cX7_makeSteps 38 = .ok (.aload_n 0, 1) := by decide +kernel
theorem dX7_makeSteps_39 : decode cX7_makeSteps 39 = .ok (.getfield 9, 3) := by decide +kernel
theorem dX7_makeSteps_42 : decode cX7_makeSteps 42 = .ok (.iconst 5, 1) := by decide +kernel
theorem dX7_makeSteps_43 : decode cX7_makeSteps 43 = .ok (.iaload, 1) := by decide +kernel
theorem dX7_makeSteps_44 : decode cX7_makeSteps 44 = .ok (.putfield 43, 3) := by decide +kernel
theorem dX7_makeSteps_47 : decode cX7_makeSteps 47 = .ok (.goto (-45), 3) := by decide +kernel
theorem dX7_makeSteps_50 : decode cX7_makeSteps 50 = .ok (.iload_n 2, 1) := by decide +kernel
theorem dX7_makeSteps_51 : decode cX7_makeSteps 51 = .ok (.ireturn, 1) := by decide +kernel
def r_makeSteps0 (σ : Hp) (n : Int32) (τ0 : Hp) : Int32 := 0
def t_makeSteps0 (σ : Hp) (n : Int32) (τ0 : Hp) : Hp := (if n ≤ 0 then σ else τ0)
theorem w_makeSteps0 (d : Nat) (σ : Hp) (n : Int32) (τ0 : Hp) (es : gI σ 50 6 = 0) (hc : Cx yX7_tryStep cX7_tryStep 3 (some .boolean) (d) 122 122 [.ref 50] σ (fun o τ => o = .inl (some (.int 0)) ∧ τ = τ0)) : Cx yX7_makeSteps cX7_makeSteps 3 (some .int) (d + 1) 122 122 [.ref 50, .int n] σ (fun o τ => o = .inl (some (.int (r_makeSteps0 σ n τ0))) ∧ τ = t_makeSteps0 σ n τ0) := by
  refine Cx_of RX7 false (by decide) rfl (fun q => by cases q) (Nat.le_refl _) rfl (Nat.le_of_ble_eq_true rfl) ?_
  refine Wx_iconst (v := 0) dX7_makeSteps_0 (by decide) ?_
  refine Wx_istore2 dX7_makeSteps_1 rfl (Nat.le_of_ble_eq_true rfl) ?_
  refine Wx_iload2 dX7_makeSteps_2 ?_
  refine Wx_iload1 dX7_makeSteps_3 ?_
  refine Wx_icmp_ge 50 dX7_makeSteps_4 (by decide) (fun h1 => ?_) (fun h1 => ?_)
  ·
    refine Wx_iload2 dX7_makeSteps_50 ?_
    exact Wx_ireturn dX7_makeSteps_51 rfl rfl (⟨by rw [r_makeSteps0], by rw [t_makeSteps0, if_pos h1]⟩)
  ·
    refine Wx_aload0 dX7_makeSteps_7 ?_
    refine Wx_getI 7 6 dX7_makeSteps_8 f_X7_40 rfl (Nat.le_of_ble_eq_true rfl) rfl ?_
    rw [show gI σ 50 6 = 0 from es]
    refine Wx_if_ne 50 dX7_makeSteps_11 (by decide) (fun h => absurd h (by decide)) (fun _ => ?_)
    refine Wx_aload0 dX7_makeSteps_14 ?_
    have c2 := hc
    refine Wx_cVi 50 7 [] 0 m_X7_tryStep l_X7_93 i_X7_tryStep rfl rfl (show 50 < 122 by decide) dX7_makeSteps_15 c2 (show _ ≤ d + 1 from Nat.le_refl _) (Nat.le_refl _) rfl (Nat.le_of_ble_eq_true rfl) rfl ?_
    clear c2
    refine Wx_if_eq 50 dX7_makeSteps_18 (by decide) (fun _ => ?_) (fun h => absurd (by decide) h)
    refine Wx_iload2 dX7_makeSteps_50 ?_
    exact Wx_ireturn dX7_makeSteps_51 rfl rfl (⟨by rw [r_makeSteps0], by rw [t_makeSteps0, if_neg h1]⟩)
theorem dX11_run_0 : decode cX11_run 0 = .ok (.iload_n 1, 1) := by decide +kernel
theorem dX11_run_1 : decode cX11_run 1 = .ok (.ifCond .lt 9, 3) := by decide +kernel
theorem dX11_run_4 : decode cX11_run 4 = .ok (.iload_n 1, 1) := by decide +kernel
theorem dX11_run_5 : decode cX11_run 5 = .ok (.ldc 241, 2) := by decide +kernel
theorem dX11_run_7 : decode cX11_run 7 = .ok (.if_icmp .le 5, 3) := by decide +kernel
theorem dX11_run_10 : decode cX11_run 10 = .ok (.iconst (-1), 1) := by decide +kernel
theorem dX11_run_11 : decode cX11_run 11 = .ok (.ireturn, 1) := by decide +kernel
theorem dX11_run_12 : decode cX11_run 12 = .ok (.aload_n 0, 1) := by decide +kernel
theorem dX11_run_13 : decode cX11_run 13 = .ok (.getfield 83, 3) := by decide +kernel
theorem dX11_run_16 : decode cX11_run 16 = .ok (.iload_n 1, 1) := by decide +kernel
theorem dX11_run_17 : decode cX11_run 17 = .ok (.invokevirtual 204, 3) := by decide +kernel
theorem dX11_run_20 : decode cX11_run 20 = .ok (.ireturn, 1) := by decide +kernel
def r_run0 (σ : Hp) (n : Int32) (τ0 : Hp) : Int32 := (if n < 0 then (-1) else (if n ≤ 100000 then (r_makeSteps0 σ n τ0) else (-1)))
def t_run0 (σ : Hp) (n : Int32) (τ0 : Hp) : Hp := (if n < 0 then σ else (if n ≤ 100000 then (t_makeSteps0 σ n τ0) else σ))
theorem w_run0 (d : Nat) (σ : Hp) (n : Int32) (τ0 : Hp) (hR : Rf σ) (es : gI σ 50 6 = 0) (hc : Cx yX7_tryStep cX7_tryStep 3 (some .boolean) (d) 122 122 [.ref 50] σ (fun o τ => o = .inl (some (.int 0)) ∧ τ = τ0)) : Cx yX11_run cX11_run 2 (some .int) (d + 2) 122 122 [.ref 0, .int n] σ (fun o τ => o = .inl (some (.int (r_run0 σ n τ0))) ∧ τ = t_run0 σ n τ0) := by
  refine Cx_of RX11 false (by decide) rfl (fun q => by cases q) (Nat.le_refl _) rfl (Nat.le_of_ble_eq_true rfl) ?_
  refine Wx_iload1 dX11_run_0 ?_
  refine Wx_if_lt 10 dX11_run_1 (by decide) (fun h1 => ?_) (fun h1 => ?_)
  ·
    refine Wx_iconst (v := (-1)) dX11_run_10 (by decide) ?_
    exact Wx_ireturn dX11_run_11 rfl rfl (⟨by rw [r_run0, if_pos h1], by rw [t_run0, if_pos h1]⟩)
  ·
    refine Wx_iload1 dX11_run_4 ?_
    refine Wx_ldc dX11_run_5 k_X11_241 ?_
    refine Wx_icmp_le 12 dX11_run_7 (by decide) (fun h2 => ?_) (fun h2 => ?_)
    ·
      refine Wx_aload0 dX11_run_12 ?_
      refine Wx_getR 11 13 50 dX11_run_13 f_X11_83 rfl (Nat.le_of_ble_eq_true rfl) rfl (hR 0 13 50 (by decide)) ?_
      refine Wx_iload1 dX11_run_16 ?_
      have c3 := (w_makeSteps0 d σ n τ0 es hc)
      refine Wx_cVi 50 7 [.int n] 1 m_X7_makeSteps l_X11_204 i_X7_makeSteps rfl rfl (show 50 < 122 by decide) dX11_run_17 c3 (show _ ≤ d + 2 from Nat.le_refl _) (Nat.le_refl _) rfl (Nat.le_of_ble_eq_true rfl) rfl ?_
      clear c3
      exact Wx_ireturn dX11_run_20 rfl rfl (⟨by rw [r_run0, if_neg h1, if_pos h2], by rw [t_run0, if_neg h1, if_pos h2]⟩)
    ·
      refine Wx_iconst (v := (-1)) dX11_run_10 (by decide) ?_
      exact Wx_ireturn dX11_run_11 rfl rfl (⟨by rw [r_run0, if_neg h1, if_neg h2], by rw [t_run0, if_neg h1, if_neg h2]⟩)
theorem dX14_run_0 : decode cX14_run 0 = .ok (.iload_n 1, 1) := by decide +kernel
theorem dX14_run_1 : decode cX14_run 1 = .ok (.ifCond .lt 10, 3) := by decide +kernel
theorem dX14_run_4 : decode cX14_run 4 = .ok (.iload_n 1, 1) := by decide +kernel
theorem dX14_run_5 : decode cX14_run 5 = .ok (.ldc_w 731, 3) := by decide +kernel
theorem dX14_run_8 : decode cX14_run 8 = .ok (.if_icmp .le 5, 3) := by decide +kernel
theorem dX14_run_11 : decode cX14_run 11 = .ok (.iconst (-1), 1) := by decide +kernel
theorem dX14_run_12 : decode cX14_run 12 = .ok (.ireturn, 1) := by decide +kernel
theorem dX14_run_13 : decode cX14_run 13 = .ok (.iconst 0, 1) := by decide +kernel
theorem dX14_run_14 : decode cX14_run 14 = .ok (.istore_n 2, 1) := by decide +kernel
theorem dX14_run_15 : decode cX14_run 15 = .ok (.iload_n 2, 1) := by decide +kernel
theorem dX14_run_16 : decode cX14_run 16 = .ok (.iload_n 1, 1) := by decide +kernel
theorem dX14_run_17 : decode cX14_run 17 = .ok (.if_icmp .ge 16, 3) := by decide +kernel
theorem dX14_run_20 : decode cX14_run 20 = .ok (.aload_n 0, 1) := by decide +kernel
theorem dX14_run_21 : decode cX14_run 21 = .ok (.invokevirtual 732, 3) := by decide +kernel
theorem dX14_run_24 : decode cX14_run 24 = .ok (.ifCond .eq 9, 3) := by decide +kernel
theorem dX14_run_27 : decode cX14_run 27 = .ok (.iinc 2 1, 3) := by decide +kernel
theorem dX14_run_30 : decode cX14_run 30 = .ok (.goto (-15), 3) := by decide +kernel
theorem dX14_run_33 : decode cX14_run 33 = .ok (.iload_n 2, 1) := by decide +kernel
theorem dX14_run_34 : decode cX14_run 34 = .ok (.ireturn, 1) := by decide +kernel
def r_runM0 (σ : Hp) (n : Int32) (τ0 : Hp) : Int32 := (if n < 0 then (-1) else (if n ≤ 100000 then 0 else (-1)))
def t_runM0 (σ : Hp) (n : Int32) (τ0 : Hp) : Hp := (if n < 0 then σ else (if n ≤ 100000 then (if n ≤ 0 then σ else τ0) else σ))
theorem w_runM0 (d : Nat) (σ : Hp) (n : Int32) (τ0 : Hp) (hc : Cx yX14_steps cX14_steps 3 (some .boolean) (d) 122 122 [.ref 66] σ (fun o τ => o = .inl (some (.int 0)) ∧ τ = τ0)) : Cx yX14_run cX14_run 3 (some .int) (d + 1) 122 122 [.ref 66, .int n] σ (fun o τ => o = .inl (some (.int (r_runM0 σ n τ0))) ∧ τ = t_runM0 σ n τ0) := by
  refine Cx_of RX14 false (by decide) rfl (fun q => by cases q) (Nat.le_refl _) rfl (Nat.le_of_ble_eq_true rfl) ?_
  refine Wx_iload1 dX14_run_0 ?_
  refine Wx_if_lt 11 dX14_run_1 (by decide) (fun h1 => ?_) (fun h1 => ?_)
  ·
    refine Wx_iconst (v := (-1)) dX14_run_11 (by decide) ?_
    exact Wx_ireturn dX14_run_12 rfl rfl (⟨by rw [r_runM0, if_pos h1], by rw [t_runM0, if_pos h1]⟩)
  ·
    refine Wx_iload1 dX14_run_4 ?_
    refine Wx_ldcw dX14_run_5 k_X14_731 ?_
    refine Wx_icmp_le 13 dX14_run_8 (by decide) (fun h2 => ?_) (fun h2 => ?_)
    ·
      refine Wx_iconst (v := 0) dX14_run_13 (by decide) ?_
      refine Wx_istore2 dX14_run_14 rfl (Nat.le_of_ble_eq_true rfl) ?_
      refine Wx_iload2 dX14_run_15 ?_
      refine Wx_iload1 dX14_run_16 ?_
      refine Wx_icmp_ge 33 dX14_run_17 (by decide) (fun h3 => ?_) (fun h3 => ?_)
      ·
        refine Wx_iload2 dX14_run_33 ?_
        exact Wx_ireturn dX14_run_34 rfl rfl (⟨by rw [r_runM0, if_neg h1, if_pos h2], by rw [t_runM0, if_neg h1, if_pos h2, if_pos h3]⟩)
      ·
        refine Wx_aload0 dX14_run_20 ?_
        have c4 := hc
        refine Wx_cVi 66 14 [] 0 m_X14_steps l_X14_732 i_X14_steps rfl rfl (show 66 < 122 by decide) dX14_run_21 c4 (show _ ≤ d + 1 from Nat.le_refl _) (Nat.le_refl _) rfl (Nat.le_of_ble_eq_true rfl) rfl ?_
        clear c4
        refine Wx_if_eq 33 dX14_run_24 (by decide) (fun _ => ?_) (fun h => absurd (by decide) h)
        refine Wx_iload2 dX14_run_33 ?_
        exact Wx_ireturn dX14_run_34 rfl rfl (⟨by rw [r_runM0, if_neg h1, if_pos h2], by rw [t_runM0, if_neg h1, if_pos h2, if_neg h3]⟩)
    ·
      refine Wx_iconst (v := (-1)) dX14_run_11 (by decide) ?_
      exact Wx_ireturn dX14_run_12 rfl rfl (⟨by rw [r_runM0, if_neg h1, if_neg h2], by rw [t_runM0, if_neg h1, if_neg h2]⟩)
theorem dX11_match_0 : decode cX11_match 0 = .ok (.aload_n 0, 1) := by decide +kernel
theorem dX11_match_1 : decode cX11_match 1 = .ok (.iload_n 1, 1) := by decide +kernel
theorem dX11_match_2 : decode cX11_match 2 = .ok (.iload_n 2, 1) := by decide +kernel
theorem dX11_match_3 : decode cX11_match 3 = .ok (.invokevirtual 199, 3) := by decide +kernel
theorem dX11_match_6 : decode cX11_match 6 = .ok (.ifCond .ne 5, 3) := by decide +kernel
theorem dX11_match_9 : decode cX11_match 9 = .ok (.iconst (-1), 1) := by decide +kernel
theorem dX11_match_10 : decode cX11_match 10 = .ok (.ireturn, 1) := by decide +kernel
theorem dX11_match_11 : decode cX11_match 11 = .ok (.aload_n 0, 1) := by decide +kernel
theorem dX11_match_12 : decode cX11_match 12 = .ok (.getfield 83, 3) := by decide +kernel
theorem dX11_match_15 : decode cX11_match 15 = .ok (.ldc 203, 2) := by decide +kernel
theorem dX11_match_17 : decode cX11_match 17 = .ok (.invokevirtual 204, 3) := by decide +kernel
theorem dX11_match_20 : decode cX11_match 20 = .ok (.pop, 1) := by decide +kernel
theorem dX11_match_21 : decode cX11_match 21 = .ok (.aload_n 0, 1) := by decide +kernel
theorem dX11_match_22 : decode cX11_match 22 = .ok (.getfield 97, 3) := by decide +kernel
theorem dX11_match_25 : decode cX11_match 25 = .ok (.aload_n 0, 1) := by decide +kernel
theorem dX11_match_26 : decode cX11_match 26 = .ok (.getfield 83, 3) := by decide +kernel
theorem dX11_match_29 : decode cX11_match 29 = .ok (.iload_n 1, 1) := by decide +kernel
theorem dX11_match_30 : decode cX11_match 30 = .ok (.iload_n 2, 1) := by decide +kernel
theorem dX11_match_31 : decode cX11_match 31 = .ok (.invokevirtual 208, 3) := by decide +kernel
theorem dX11_match_34 : decode cX11_match 34 = .ok (.aload_n 0, 1) := by decide +kernel
theorem dX11_match_35 : decode cX11_match 35 = .ok (.getfield 97, 3) := by decide +kernel
theorem dX11_match_38 : decode cX11_match 38 = .ok (.getfield 212, 3) := by decide +kernel
theorem dX11_match_41 : decode cX11_match 41 = .ok (.ireturn, 1) := by decide +kernel
def r_match0 (σ : Hp) (a : Int32) (b : Int32) : Int32 := (-1)
theorem w_match0 (d : Nat) (σ : Hp) (a : Int32) (b : Int32) (hc : Cx yX11_arm cX11_arm 4 (some .boolean) (d) 122 122 [.ref 0, .int a, .int b] σ (fun o τ => o = .inl (some (.int 0)) ∧ τ = σ)) : Cx yX11_match cX11_match 3 (some .int) (d + 1) 122 122 [.ref 0, .int a, .int b] σ (fun o τ => o = .inl (some (.int (r_match0 σ a b))) ∧ τ = σ) := by
  refine Cx_of RX11 false (by decide) rfl (fun q => by cases q) (Nat.le_refl _) rfl (Nat.le_of_ble_eq_true rfl) ?_
  refine Wx_aload0 dX11_match_0 ?_
  refine Wx_iload1 dX11_match_1 ?_
  refine Wx_iload2 dX11_match_2 ?_
  have c1 := hc
  refine Wx_cVi 0 11 [.int a, .int b] 2 m_X11_arm l_X11_199 i_X11_arm rfl rfl (show 0 < 122 by decide) dX11_match_3 c1 (show _ ≤ d + 1 from Nat.le_refl _) (Nat.le_refl _) rfl (Nat.le_of_ble_eq_true rfl) rfl ?_
  clear c1
  refine Wx_if_ne 11 dX11_match_6 (by decide) (fun h => absurd h (by decide)) (fun _ => ?_)
  refine Wx_iconst (v := (-1)) dX11_match_9 (by decide) ?_
  exact Wx_ireturn dX11_match_10 rfl rfl (⟨by rw [r_match0], rfl⟩)
theorem dX14_match_0 : decode cX14_match 0 = .ok (.aload_n 0, 1) := by decide +kernel
theorem dX14_match_1 : decode cX14_match 1 = .ok (.iload_n 1, 1) := by decide +kernel
theorem dX14_match_2 : decode cX14_match 2 = .ok (.iload_n 2, 1) := by decide +kernel
theorem dX14_match_3 : decode cX14_match 3 = .ok (.invokevirtual 783, 3) := by decide +kernel
theorem dX14_match_6 : decode cX14_match 6 = .ok (.ifCond .ne 5, 3) := by decide +kernel
theorem dX14_match_9 : decode cX14_match 9 = .ok (.iconst (-1), 1) := by decide +kernel
theorem dX14_match_10 : decode cX14_match 10 = .ok (.ireturn, 1) := by decide +kernel
theorem dX14_match_11 : decode cX14_match 11 = .ok (.iload_n 2, 1) := by decide +kernel
theorem dX14_match_12 : decode cX14_match 12 = .ok (.istore_n 3, 1) := by decide +kernel
theorem dX14_match_13 : decode cX14_match 13 = .ok (.iconst 0, 1) := by decide +kernel
theorem dX14_match_14 : decode cX14_match 14 = .ok (.istore 4, 2) := by decide +kernel
theorem dX14_match_16 : decode cX14_match 16 = .ok (.iload 4, 2) := by decide +kernel
theorem dX14_match_18 : decode cX14_match 18 = .ok (.ldc_w 786, 3) := by decide +kernel
theorem dX14_match_21 : decode cX14_match 21 = .ok (.if_icmp .ge 37, 3) := by decide +kernel
theorem dX14_match_24 : decode cX14_match 24 = .ok (.aload_n 0, 1) := by decide +kernel
theorem dX14_match_25 : decode cX14_match 25 = .ok (.invokevirtual 732, 3) := by decide +kernel
theorem dX14_match_28 : decode cX14_match 28 = .ok (.ifCond .eq 30, 3) := by decide +kernel
theorem dX14_match_31 : decode cX14_match 31 = .ok (.iinc 4 1, 3) := by decide +kernel
theorem dX14_match_34 : decode cX14_match 34 = .ok (.aload_n 0, 1) := by decide +kernel
theorem dX14_match_35 : decode cX14_match 35 = .ok (.getfield 125, 3) := by decide +kernel
theorem dX14_match_38 : decode cX14_match 38 = .ok (.iconst 5, 1) := by decide +kernel
theorem dX14_match_39 : decode cX14_match 39 = .ok (.iaload, 1) := by decide +kernel
theorem dX14_match_40 : decode cX14_match 40 = .ok (.iload_n 3, 1) := by decide +kernel
theorem dX14_match_41 : decode cX14_match 41 = .ok (.if_icmp .ge 12, 3) := by decide +kernel
theorem dX14_match_44 : decode cX14_match 44 = .ok (.aload_n 0, 1) := by decide +kernel
theorem dX14_match_45 : decode cX14_match 45 = .ok (.getfield 125, 3) := by decide +kernel
theorem dX14_match_48 : decode cX14_match 48 = .ok (.iconst 5, 1) := by decide +kernel
theorem dX14_match_49 : decode cX14_match 49 = .ok (.iaload, 1) := by decide +kernel
theorem dX14_match_50 : decode cX14_match 50 = .ok (.goto 4, 3) := by decide +kernel
theorem dX14_match_53 : decode cX14_match 53 = .ok (.iload_n 3, 1) := by decide +kernel
theorem dX14_match_54 : decode cX14_match 54 = .ok (.istore_n 3, 1) := by decide +kernel
theorem dX14_match_55 : decode cX14_match 55 = .ok (.goto (-39), 3) := by decide +kernel
theorem dX14_match_58 : decode cX14_match 58 = .ok (.aload_n 0, 1) := by decide +kernel
theorem dX14_match_59 : decode cX14_match 59 = .ok (.getfield 693, 3) := by decide +kernel
theorem dX14_match_62 : decode cX14_match 62 = .ok (.ifCond .ne 27, 3) := by decide +kernel
theorem dX14_match_65 : decode cX14_match 65 = .ok (.aload_n 0, 1) := by decide +kernel
theorem dX14_match_66 : decode cX14_match 66 = .ok (.bipush (-4), 2) := by decide +kernel
theorem dX14_match_68 : decode cX14_match 68 = .ok (.putfield 155, 3) := by decide +kernel
theorem dX14_match_71 : decode cX14_match 71 = .ok (.aload_n 0, 1) := by decide +kernel
theorem dX14_match_72 : decode cX14_match 72 = .ok (.iload_n 2, 1) := by decide +kernel
theorem dX14_match_73 : decode cX14_match 73 = .ok (.iload_n 3, 1) := by decide +kernel
theorem dX14_match_74 : decode cX14_match 74 = .ok (.ifCond .ge 7, 3) := by decide +kernel
theorem dX14_match_77 : decode cX14_match 77 = .ok (.iconst 0, 1) := by decide +kernel
theorem dX14_match_78 : decode cX14_match 78 = .ok (.goto 4, 3) := by decide +kernel
theorem dX14_match_81 : decode cX14_match 81 = .ok (.iload_n 3, 1) := by decide +kernel
theorem dX14_match_82 : decode cX14_match 82 = .ok (.isub, 1) := by decide +kernel
theorem dX14_match_83 : decode cX14_match 83 = .ok (.putfield 787, 3) := by decide +kernel
theorem dX14_match_86 : decode cX14_match 86 = .ok (.goto 13, 3) := by decide +kernel
theorem dX14_match_89 : decode cX14_match 89 = .ok (.aload_n 0, 1) := by decide +kernel
theorem dX14_match_90 : decode cX14_match 90 = .ok (.aload_n 0, 1) := by decide +kernel
theorem dX14_match_91 : decode cX14_match 91 = .ok (.iload_n 1, 1) := by decide +kernel
theorem dX14_match_92 : decode cX14_match 92 = .ok (.iload_n 2, 1) := by decide +kernel
theorem dX14_match_93 : decode cX14_match 93 = .ok (.invokevirtual 790, 3) := by decide +kernel
theorem dX14_match_96 : decode cX14_match 96 = .ok (.putfield 155, 3) := by decide +kernel
theorem dX14_match_99 : decode cX14_match 99 = .ok (.aload_n 0, 1) := by decide +kernel
theorem dX14_match_100 : decode cX14_match 100 = .ok (.getfield 155, 3) := by decide +kernel
theorem dX14_match_103 : decode cX14_match 103 = .ok (.ireturn, 1) := by decide +kernel
def r_matchM0 (σ : Hp) (a : Int32) (b : Int32) : Int32 := (-1)
theorem w_matchM0 (d : Nat) (σ : Hp) (a : Int32) (b : Int32) (hc : Cx yX14_arm cX14_arm 4 (some .boolean) (d) 122 122 [.ref 66, .int a, .int b] σ (fun o τ => o = .inl (some (.int 0)) ∧ τ = σ)) : Cx yX14_match cX14_match 5 (some .int) (d + 1) 122 122 [.ref 66, .int a, .int b] σ (fun o τ => o = .inl (some (.int (r_matchM0 σ a b))) ∧ τ = σ) := by
  refine Cx_of RX14 false (by decide) rfl (fun q => by cases q) (Nat.le_refl _) rfl (Nat.le_of_ble_eq_true rfl) ?_
  refine Wx_aload0 dX14_match_0 ?_
  refine Wx_iload1 dX14_match_1 ?_
  refine Wx_iload2 dX14_match_2 ?_
  have c1 := hc
  refine Wx_cVi 66 14 [.int a, .int b] 2 m_X14_arm l_X14_783 i_X14_arm rfl rfl (show 66 < 122 by decide) dX14_match_3 c1 (show _ ≤ d + 1 from Nat.le_refl _) (Nat.le_refl _) rfl (Nat.le_of_ble_eq_true rfl) rfl ?_
  clear c1
  refine Wx_if_ne 11 dX14_match_6 (by decide) (fun h => absurd h (by decide)) (fun _ => ?_)
  refine Wx_iconst (v := (-1)) dX14_match_9 (by decide) ?_
  exact Wx_ireturn dX14_match_10 rfl rfl (⟨by rw [r_matchM0], rfl⟩)
theorem dX14_grammar_0 : decode cX14_grammar 0 = .ok (.aload_n 0, 1) := by decide +kernel
theorem dX14_grammar_1 : decode cX14_grammar 1 = .ok (.iconst 1, 1) := by decide +kernel
theorem dX14_grammar_2 : decode cX14_grammar 2 = .ok (.putfield 519, 3) := by decide +kernel
theorem dX14_grammar_5 : decode cX14_grammar 5 = .ok (.aload_n 0, 1) := by decide +kernel
theorem dX14_grammar_6 : decode cX14_grammar 6 = .ok (.iconst 0, 1) := by decide +kernel
theorem dX14_grammar_7 : decode cX14_grammar 7 = .ok (.putfield 164, 3) := by decide +kernel
theorem dX14_grammar_10 : decode cX14_grammar 10 = .ok (.aload_n 0, 1) := by decide +kernel
theorem dX14_grammar_11 : decode cX14_grammar 11 = .ok (.iconst (-1), 1) := by decide +kernel
theorem dX14_grammar_12 : decode cX14_grammar 12 = .ok (.putfield 23, 3) := by decide +kernel
theorem dX14_grammar_15 : decode cX14_grammar 15 = .ok (.aload_n 0, 1) := by decide +kernel
theorem dX14_grammar_16 : decode cX14_grammar 16 = .ok (.getfield 158, 3) := by decide +kernel
theorem dX14_grammar_19 : decode cX14_grammar 19 = .ok (.istore_n 1, 1) := by decide +kernel
theorem dX14_grammar_20 : decode cX14_grammar 20 = .ok (.aload_n 0, 1) := by decide +kernel
theorem dX14_grammar_21 : decode cX14_grammar 21 = .ok (.invokevirtual 522, 3) := by decide +kernel
theorem dX14_grammar_24 : decode cX14_grammar 24 = .ok (.aload_n 0, 1) := by decide +kernel
theorem dX14_grammar_25 : decode cX14_grammar 25 = .ok (.invokevirtual 525, 3) := by decide +kernel
theorem dX14_grammar_28 : decode cX14_grammar 28 = .ok (.goto 9, 3) := by decide +kernel
theorem dX14_grammar_31 : decode cX14_grammar 31 = .ok (.astore_n 2, 1) := by decide +kernel
theorem dX14_grammar_32 : decode cX14_grammar 32 = .ok (.aload_n 0, 1) := by decide +kernel
theorem dX14_grammar_33 : decode cX14_grammar 33 = .ok (.iconst 1, 1) := by decide +kernel
theorem dX14_grammar_34 : decode cX14_grammar 34 = .ok (.putfield 164, 3) := by decide +kernel
theorem dX14_grammar_37 : decode cX14_grammar 37 = .ok (.aload_n 0, 1) := by decide +kernel
theorem dX14_grammar_38 : decode cX14_grammar 38 = .ok (.getfield 164, 3) := by decide +kernel
theorem dX14_grammar_41 : decode cX14_grammar 41 = .ok (.ifCond .ne 31, 3) := by decide +kernel
theorem dX14_grammar_44 : decode cX14_grammar 44 = .ok (.aload_n 0, 1) := by decide +kernel
theorem dX14_grammar_45 : decode cX14_grammar 45 = .ok (.invokevirtual 528, 3) := by decide +kernel
theorem dX14_grammar_48 : decode cX14_grammar 48 = .ok (.aload_n 0, 1) := by decide +kernel
theorem dX14_grammar_49 : decode cX14_grammar 49 = .ok (.getfield 305, 3) := by decide +kernel
theorem dX14_grammar_52 : decode cX14_grammar 52 = .ok (.ifCond .ne 7, 3) := by decide +kernel
theorem dX14_grammar_55 : decode cX14_grammar 55 = .ok (.aload_n 0, 1) := by decide +kernel
theorem dX14_grammar_56 : decode cX14_grammar 56 = .ok (.invokevirtual 531, 3) := by decide +kernel
theorem dX14_grammar_59 : decode cX14_grammar 59 = .ok (.aload_n 0, 1) := by decide +kernel
theorem dX14_grammar_60 : decode cX14_grammar 60 = .ok (.getfield 305, 3) := by decide +kernel
theorem dX14_grammar_63 : decode cX14_grammar 63 = .ok (.ifCond .eq 9, 3) := by decide +kernel
theorem dX14_grammar_66 : decode cX14_grammar 66 = .ok (.aload_n 0, 1) := by decide +kernel
theorem dX14_grammar_67 : decode cX14_grammar 67 = .ok (.iconst 5, 1) := by decide +kernel
theorem dX14_grammar_68 : decode cX14_grammar 68 = .ok (.iload_n 1, 1) := by decide +kernel
theorem dX14_grammar_69 : decode cX14_grammar 69 = .ok (.invokevirtual 264, 3) := by decide +kernel
theorem dX14_grammar_72 : decode cX14_grammar 72 = .ok (.aload_n 0, 1) := by decide +kernel
theorem dX14_grammar_73 : decode cX14_grammar 73 = .ok (.iconst 0, 1) := by decide +kernel
theorem dX14_grammar_74 : decode cX14_grammar 74 = .ok (.putfield 158, 3) := by decide +kernel
theorem dX14_grammar_77 : decode cX14_grammar 77 = .ok (.aload_n 0, 1) := by decide +kernel
theorem dX14_grammar_78 : decode cX14_grammar 78 = .ok (.getfield 164, 3) := by decide +kernel
theorem dX14_grammar_81 : decode cX14_grammar 81 = .ok (.ifCond .eq 5, 3) := by decide +kernel
theorem dX14_grammar_84 : decode cX14_grammar 84 = .ok (.iconst (-1), 1) := by decide +kernel
theorem dX14_grammar_85 : decode cX14_grammar 85 = .ok (.ireturn, 1) := by decide +kernel
theorem dX14_grammar_86 : decode cX14_grammar 86 = .ok (.aload_n 0, 1) := by decide +kernel
theorem dX14_grammar_87 : decode cX14_grammar 87 = .ok (.getfield 85, 3) := by decide +kernel
theorem dX14_grammar_90 : decode cX14_grammar 90 = .ok (.aload_n 0, 1) := by decide +kernel
theorem dX14_grammar_91 : decode cX14_grammar 91 = .ok (.getfield 194, 3) := by decide +kernel
theorem dX14_grammar_94 : decode cX14_grammar 94 = .ok (.putfield 533, 3) := by decide +kernel
theorem dX14_grammar_97 : decode cX14_grammar 97 = .ok (.aload_n 0, 1) := by decide +kernel
theorem dX14_grammar_98 : decode cX14_grammar 98 = .ok (.getfield 85, 3) := by decide +kernel
theorem dX14_grammar_101 : decode cX14_grammar 101 = .ok (.aload_n 0, 1) := by decide +kernel
theorem dX14_grammar_102 : decode cX14_grammar 102 = .ok (.getfield 197, 3) := by decide +kernel
theorem dX14_grammar_105 : decode cX14_grammar 105 = .ok (.putfield 534, 3) := by decide +kernel
theorem dX14_grammar_108 : decode cX14_grammar 108 = .ok (.iconst 0, 1) := by decide +kernel
theorem dX14_grammar_109 : decode cX14_grammar 109 = .ok (.istore_n 2, 1) := by decide +kernel
theorem dX14_grammar_110 : decode cX14_grammar 110 = .ok (.iload_n 2, 1) := by decide +kernel
theorem dX14_grammar_111 : decode cX14_grammar 111 = .ok (.aload_n 0, 1) := by decide +kernel
theorem dX14_grammar_112 : decode cX14_grammar 112 = .ok (.getfield 194, 3) := by decide +kernel
theorem dX14_grammar_115 : decode cX14_grammar 115 = .ok (.if_icmp .ge 152, 3) := by decide +kernel
theorem dX14_grammar_118 : decode cX14_grammar 118 = .ok (.aload_n 0, 1) := by decide +kernel
theorem dX14_grammar_119 : decode cX14_grammar 119 = .ok (.getfield 85, 3) := by decide +kernel
theorem dX14_grammar_122 : decode cX14_grammar 122 = .ok (.getfield 369, 3) := by decide +kernel
theorem dX14_grammar_125 : decode cX14_grammar 125 = .ok (.bipush 12, 2) := by decide +kernel
theorem dX14_grammar_127 : decode cX14_grammar 127 = .ok (.iload_n 2, 1) := by decide +kernel
theorem dX14_grammar_128 : decode cX14_grammar 128 = .ok (.imul, 1) := by decide +kernel
theorem dX14_grammar_129 : decode cX14_grammar 129 = .ok (.aload_n 0, 1) := by decide +kernel
theorem dX14_grammar_130 : decode cX14_grammar 130 = .ok (.getfield 40, 3) := by decide +kernel
theorem dX14_grammar_133 : decode cX14_grammar 133 = .ok (.aload_n 0, 1) := by decide +kernel
theorem dX14_grammar_134 : decode cX14_grammar 134 = .ok (.getfield 58, 3) := by decide +kernel
theorem dX14_grammar_137 : decode cX14_grammar 137 = .ok (.iload_n 2, 1) := by decide +kernel
theorem dX14_grammar_138 : decode cX14_grammar 138 = .ok (.iaload, 1) := by decide +kernel
theorem dX14_grammar_139 : decode cX14_grammar 139 = .ok (.baload, 1) := by decide +kernel
theorem dX14_grammar_140 : decode cX14_grammar 140 = .ok (.ifCond .eq 7, 3) := by decide +kernel
theorem dX14_grammar_143 : decode cX14_grammar 143 = .ok (.iconst 1, 1) := by decide +kernel
theorem dX14_grammar_144 : decode cX14_grammar 144 = .ok (.goto 4, 3) := by decide +kernel
theorem dX14_grammar_147 : decode cX14_grammar 147 = .ok (.iconst 0, 1) := by decide +kernel
theorem dX14_grammar_148 : decode cX14_grammar 148 = .ok (.iastore, 1) := by decide +kernel
theorem dX14_grammar_149 : decode cX14_grammar 149 = .ok (.aload_n 0, 1) := by decide +kernel
theorem dX14_grammar_150 : decode cX14_grammar 150 = .ok (.getfield 85, 3) := by decide +kernel
theorem dX14_grammar_153 : decode cX14_grammar 153 = .ok (.getfield 369, 3) := by decide +kernel
theorem dX14_grammar_156 : decode cX14_grammar 156 = .ok (.bipush 12, 2) := by decide +kernel
theorem dX14_grammar_158 : decode cX14_grammar 158 = .ok (.iload_n 2, 1) := by decide +kernel
theorem dX14_grammar_159 : decode cX14_grammar 159 = .ok (.imul, 1) := by decide +kernel
theorem dX14_grammar_160 : decode cX14_grammar 160 = .ok (.iconst 1, 1) := by decide +kernel
theorem dX14_grammar_161 : decode cX14_grammar 161 = .ok (.iadd, 1) := by decide +kernel
theorem dX14_grammar_162 : decode cX14_grammar 162 = .ok (.aload_n 0, 1) := by decide +kernel
theorem dX14_grammar_163 : decode cX14_grammar 163 = .ok (.getfield 44, 3) := by decide +kernel
theorem dX14_grammar_166 : decode cX14_grammar 166 = .ok (.aload_n 0, 1) := by decide +kernel
theorem dX14_grammar_167 : decode cX14_grammar 167 = .ok (.getfield 58, 3) := by decide +kernel
theorem dX14_grammar_170 : decode cX14_grammar 170 = .ok (.iload_n 2, 1) := by decide +kernel
theorem dX14_grammar_171 : decode cX14_grammar 171 = .ok (.iaload, 1) := by decide +kernel
theorem dX14_grammar_172 : decode cX14_grammar 172 = .ok (.baload, 1) := by decide +kernel
theorem dX14_grammar_173 : decode cX14_grammar 173 = .ok (.ifCond .eq 7, 3) := by decide +kernel
theorem dX14_grammar_176 : decode cX14_grammar 176 = .ok (.iconst 1, 1) := by decide +kernel
theorem dX14_grammar_177 : decode cX14_grammar 177 = .ok (.goto 4, 3) := by decide +kernel
theorem dX14_grammar_180 : decode cX14_grammar 180 = .ok (.iconst 0, 1) := by decide +kernel
theorem dX14_grammar_181 : decode cX14_grammar 181 = .ok (.iastore, 1) := by decide +kernel
theorem dX14_grammar_182 : decode cX14_grammar 182 = .ok (.aload_n 0, 1) := by decide +kernel
theorem dX14_grammar_183 : decode cX14_grammar 183 = .ok (.getfield 85, 3) := by decide +kernel
theorem dX14_grammar_186 : decode cX14_grammar 186 = .ok (.getfield 369, 3) := by decide +kernel
theorem dX14_grammar_189 : decode cX14_grammar 189 = .ok (.bipush 12, 2) := by decide +kernel
theorem dX14_grammar_191 : decode cX14_grammar 191 = .ok (.iload_n 2, 1) := by decide +kernel
theorem dX14_grammar_192 : decode cX14_grammar 192 = .ok (.imul, 1) := by decide +kernel
theorem dX14_grammar_193 : decode cX14_grammar 193 = .ok (.iconst 2, 1) := by decide +kernel
theorem dX14_grammar_194 : decode cX14_grammar 194 = .ok (.iadd, 1) := by decide +kernel
theorem dX14_grammar_195 : decode cX14_grammar 195 = .ok (.aload_n 0, 1) := by decide +kernel
theorem dX14_grammar_196 : decode cX14_grammar 196 = .ok (.getfield 47, 3) := by decide +kernel
theorem dX14_grammar_199 : decode cX14_grammar 199 = .ok (.aload_n 0, 1) := by decide +kernel
theorem dX14_grammar_200 : decode cX14_grammar 200 = .ok (.getfield 58, 3) := by decide +kernel
theorem dX14_grammar_203 : decode cX14_grammar 203 = .ok (.iload_n 2, 1) := by decide +kernel
theorem dX14_grammar_204 : decode cX14_grammar 204 = .ok (.iaload, 1) := by decide +kernel
theorem dX14_grammar_205 : decode cX14_grammar 205 = .ok (.baload, 1) := by decide +kernel
theorem dX14_grammar_206 : decode cX14_grammar 206 = .ok (.ifCond .eq 7, 3) := by decide +kernel
theorem dX14_grammar_209 : decode cX14_grammar 209 = .ok (.iconst 1, 1) := by decide +kernel
theorem dX14_grammar_210 : decode cX14_grammar 210 = .ok (.goto 4, 3) := by decide +kernel
theorem dX14_grammar_213 : decode cX14_grammar 213 = .ok (.iconst 0, 1) := by decide +kernel
theorem dX14_grammar_214 : decode cX14_grammar 214 = .ok (.iastore, 1) := by decide +kernel
theorem dX14_grammar_215 : decode cX14_grammar 215 = .ok (.iconst 0, 1) := by decide +kernel
theorem dX14_grammar_216 : decode cX14_grammar 216 = .ok (.istore_n 3, 1) := by decide +kernel
theorem dX14_grammar_217 : decode cX14_grammar 217 = .ok (.iload_n 3, 1) := by decide +kernel
theorem dX14_grammar_218 : decode cX14_grammar 218 = .ok (.bipush 8, 2) := by decide +kernel
theorem dX14_grammar_220 : decode cX14_grammar 220 = .ok (.if_icmp .ge 41, 3) := by decide +kernel
theorem dX14_grammar_223 : decode cX14_grammar 223 = .ok (.aload_n 0, 1) := by decide +kernel
theorem dX14_grammar_224 : decode cX14_grammar 224 = .ok (.getfield 85, 3) := by decide +kernel
theorem dX14_grammar_227 : decode cX14_grammar 227 = .ok (.getfield 369, 3) := by decide +kernel
theorem dX14_grammar_230 : decode cX14_grammar 230 = .ok (.bipush 12, 2) := by decide +kernel
theorem dX14_grammar_232 : decode cX14_grammar 232 = .ok (.iload_n 2, 1) := by decide +kernel
theorem dX14_grammar_233 : decode cX14_grammar 233 = .ok (.imul, 1) := by decide +kernel
theorem dX14_grammar_234 : decode cX14_grammar 234 = .ok (.iconst 4, 1) := by decide +kernel
theorem dX14_grammar_235 : decode cX14_grammar 235 = .ok (.iadd, 1) := by decide +kernel
theorem dX14_grammar_236 : decode cX14_grammar 236 = .ok (.iload_n 3, 1) := by decide +kernel
theorem dX14_grammar_237 : decode cX14_grammar 237 = .ok (.iadd, 1) := by decide +kernel
theorem dX14_grammar_238 : decode cX14_grammar 238 = .ok (.aload_n 0, 1) := by decide +kernel
theorem dX14_grammar_239 : decode cX14_grammar 239 = .ok (.getfield 55, 3) := by decide +kernel
theorem dX14_grammar_242 : decode cX14_grammar 242 = .ok (.bipush 8, 2) := by decide +kernel
theorem dX14_grammar_244 : decode cX14_grammar 244 = .ok (.aload_n 0, 1) := by decide +kernel
theorem dX14_grammar_245 : decode cX14_grammar 245 = .ok (.getfield 58, 3) := by decide +kernel
theorem dX14_grammar_248 : decode cX14_grammar 248 = .ok (.iload_n 2, 1) := by decide +kernel
theorem dX14_grammar_249 : decode cX14_grammar 249 = .ok (.iaload, 1) := by decide +kernel
theorem dX14_grammar_250 : decode cX14_grammar 250 = .ok (.imul, 1) := by decide +kernel
theorem dX14_grammar_251 : decode cX14_grammar 251 = .ok (.iload_n 3, 1) := by decide +kernel
theorem dX14_grammar_252 : decode cX14_grammar 252 = .ok (.iadd, 1) := by decide +kernel
theorem dX14_grammar_253 : decode cX14_grammar 253 = .ok (.iaload, 1) := by decide +kernel
theorem dX14_grammar_254 : decode cX14_grammar 254 = .ok (.iastore, 1) := by decide +kernel
theorem dX14_grammar_255 : decode cX14_grammar 255 = .ok (.iinc 3 1, 3) := by decide +kernel
theorem dX14_grammar_258 : decode cX14_grammar 258 = .ok (.goto (-41), 3) := by decide +kernel
theorem dX14_grammar_261 : decode cX14_grammar 261 = .ok (.iinc 2 1, 3) := by decide +kernel
theorem dX14_grammar_264 : decode cX14_grammar 264 = .ok (.goto (-154), 3) := by decide +kernel
theorem dX14_grammar_267 : decode cX14_grammar 267 = .ok (.aload_n 0, 1) := by decide +kernel
theorem dX14_grammar_268 : decode cX14_grammar 268 = .ok (.getfield 89, 3) := by decide +kernel
theorem dX14_grammar_271 : decode cX14_grammar 271 = .ok (.astore_n 2, 1) := by decide +kernel
theorem dX14_grammar_272 : decode cX14_grammar 272 = .ok (.aload_n 0, 1) := by decide +kernel
theorem dX14_grammar_273 : decode cX14_grammar 273 = .ok (.aload_n 0, 1) := by decide +kernel
theorem dX14_grammar_274 : decode cX14_grammar 274 = .ok (.getfield 85, 3) := by decide +kernel
theorem dX14_grammar_277 : decode cX14_grammar 277 = .ok (.putfield 89, 3) := by decide +kernel
theorem dX14_grammar_280 : decode cX14_grammar 280 = .ok (.aload_n 0, 1) := by decide +kernel
theorem dX14_grammar_281 : decode cX14_grammar 281 = .ok (.aload_n 2, 1) := by decide +kernel
theorem dX14_grammar_282 : decode cX14_grammar 282 = .ok (.putfield 85, 3) := by decide +kernel
theorem dX14_grammar_285 : decode cX14_grammar 285 = .ok (.aload_n 0, 1) := by decide +kernel
theorem dX14_grammar_286 : decode cX14_grammar 286 = .ok (.iconst 1, 1) := by decide +kernel
theorem dX14_grammar_287 : decode cX14_grammar 287 = .ok (.putfield 535, 3) := by decide +kernel
theorem dX14_grammar_290 : decode cX14_grammar 290 = .ok (.aload_n 0, 1) := by decide +kernel
theorem dX14_grammar_291 : decode cX14_grammar 291 = .ok (.getfield 194, 3) := by decide +kernel
theorem dX14_grammar_294 : decode cX14_grammar 294 = .ok (.ireturn, 1) := by decide +kernel
theorem Wx_cVT {S : Sx} {pc : Nat} {lv st st0 : List Value} {σ τ : Hp} {j : Nat} {idx : Nat} {y : MethodName} {code : ByteArray} {maxL : Nat} {ret : Option FieldType} {d : Nat} (i ci : Nat) (av : List Value) (np : Nat) (hm : mok y code maxL ret np) (hlk : Cond.methodLink S.1.2.1 idx y ∈ gw) (hio : iok y) (hsh : sh i = .inl ci) (hcl : (cl_all[ci]?).map (fun q => q.1) = some y.cls) (hi : i < 122) (hd : decode S.1.1 pc = .ok (.invokevirtual idx, 3)) (hc : CxT y code maxL ret d (.ref i :: av) σ (fun o t => o = .inr j ∧ t = τ)) (hD : d + 1 ≤ S.2.1) (hp : av.length = np) (hw : wsum st ≤ 8) (hst : st0 = av.reverse ++ .ref i :: st) (kt : Tx S pc lv st τ j) : Wx S 122 pc lv st0 σ :=
  Wx_callVT i ci av np hm hlk hio hsh hcl hi hd hc hD hp hw hst (fun _ _ h => by cases h.1) (fun w t h => by obtain ⟨h0, rfl⟩ := h; cases h0; exact kt)
theorem w_grammarX (d : Nat) (σ τ1 : Hp) (hT : CxT yX14_text cX14_text 1 none d [.ref 66] (pI (pI (pI σ 66 9 1) 66 7 0) 66 8 (-1)) (fun o τ => o = .inr 67 ∧ τ = τ1)) : CxW yX14_grammar cX14_grammar 4 (some .int) (d + 1) [.ref 66] σ (fun o τ => o = .inl (some (.int (-1))) ∧ τ = pI (pI τ1 66 7 1) 66 2 0) := by
  refine CxW_of RX14 (by decide) rfl rfl (Nat.le_of_ble_eq_true rfl) ?_
  refine Wx_aload0 dX14_grammar_0 ?_
  refine Wx_iconst (v := 1) dX14_grammar_1 (by decide) ?_
  refine Wx_putZ 14 9 dX14_grammar_2 f_X14_519 rfl (Nat.le_of_ble_eq_true rfl) rfl rfl (by decide) ?_
  refine Wx_aload0 dX14_grammar_5 ?_
  refine Wx_iconst (v := 0) dX14_grammar_6 (by decide) ?_
  refine Wx_putI 14 7 dX14_grammar_7 f_X14_164 rfl (Nat.le_of_ble_eq_true rfl) rfl rfl ?_
  refine Wx_aload0 dX14_grammar_10 ?_
  refine Wx_iconst (v := (-1)) dX14_grammar_11 (by decide) ?_
  refine Wx_putI 14 8 dX14_grammar_12 f_X14_23 rfl (Nat.le_of_ble_eq_true rfl) rfl rfl ?_
  refine Wx_aload0 dX14_grammar_15 ?_
  refine Wx_getI 14 2 dX14_grammar_16 f_X14_158 rfl (Nat.le_of_ble_eq_true rfl) rfl ?_
  refine Wx_istore1 dX14_grammar_19 rfl (Nat.le_of_ble_eq_true rfl) ?_
  refine Wx_aload0 dX14_grammar_20 ?_
  refine Wx_cVT 66 14 [] 0 m_X14_text (lok_in (by decide) l_X14_522) i_X14_text rfl rfl (show 66 < 122 by decide) dX14_grammar_21 hT (show _ ≤ d + 1 from Nat.le_refl _) rfl (Nat.le_of_ble_eq_true rfl) rfl ?_
  refine Tx_catch rfl rfl ⟨by decide, by decide⟩ ?_
  refine Wx_astore2 dX14_grammar_31 rfl (Nat.le_of_ble_eq_true rfl) ?_
  refine Wx_aload0 dX14_grammar_32 ?_
  refine Wx_iconst (v := 1) dX14_grammar_33 (by decide) ?_
  refine Wx_putI 14 7 dX14_grammar_34 f_X14_164 rfl (Nat.le_of_ble_eq_true rfl) rfl rfl ?_
  refine Wx_aload0 dX14_grammar_37 ?_
  refine Wx_getI 14 7 dX14_grammar_38 f_X14_164 rfl (Nat.le_of_ble_eq_true rfl) rfl ?_
  rw [show gI (pI τ1 66 7 1) 66 7 = 1 from gI_pIs]
  refine Wx_if_ne 72 dX14_grammar_41 (by decide) (fun _ => ?_) (fun h => absurd (by decide) h)
  refine Wx_aload0 dX14_grammar_72 ?_
  refine Wx_iconst (v := 0) dX14_grammar_73 (by decide) ?_
  refine Wx_putI 14 2 dX14_grammar_74 f_X14_158 rfl (Nat.le_of_ble_eq_true rfl) rfl rfl ?_
  refine Wx_aload0 dX14_grammar_77 ?_
  refine Wx_getI 14 7 dX14_grammar_78 f_X14_164 rfl (Nat.le_of_ble_eq_true rfl) rfl ?_
  rw [show gI (pI (pI τ1 66 7 1) 66 2 0) 66 7 = 1 from ((gI_pI (by decide)).trans gI_pIs)]
  refine Wx_if_eq 86 dX14_grammar_81 (by decide) (fun h => absurd h (by decide)) (fun _ => ?_)
  refine Wx_iconst (v := (-1)) dX14_grammar_84 (by decide) ?_
  exact Wx_ireturn dX14_grammar_85 rfl rfl (⟨rfl, rfl⟩)

/-! ===== the constructors ===== -/
theorem Wx_ctor {S : Sx} {n pc : Nat} {lv st : List Value} {σ t : Hp} {idx : Nat} {y : MethodName} {code : ByteArray} {maxL : Nat} {d n' : Nat} (i : Nat) (av : List Value) (np : Nat) (hm : mok y code maxL none np) (hlk : lok S.1.2.1 idx y) (hs : Cond.instanceMethod y ∈ gw) (hy : y.name = "<init>") (hd : decode S.1.1 pc = .ok (.invokespecial idx, 3)) (hc : Cx y code maxL none d n n' (.ref i :: av) σ (fun o τ => o = .inl none ∧ τ = t))
    (hD : d + 1 ≤ S.2.1) (hle : n ≤ n') (hF : n' ≤ S.2.2.2.1) (hp : av.length = np) (hw : wsum st ≤ 8) {st0 : List Value} (hst : st0 = av.reverse ++ .ref i :: st) (kk : Wx S n' (pc + 3) lv st t) : Wx S n pc lv st0 σ :=
  Wx_callI i av np hm hlk hs hy hd hc hD hle hF hp hw hst (fun _ _ h => by cases h.1) (fun v τ h => by
    obtain ⟨h1, rfl⟩ := h
    cases h1
    exact kk)
/-! the exception that the reference makes once: its fields stay null -/
def RT : String := "java/lang/Throwable"
def yT : MethodName := ⟨RT, "<init>", "(Ljava/lang/String;Ljava/lang/Throwable;ZZ)V"⟩
def yE : MethodName := ⟨"java/lang/Exception", "<init>", "(Ljava/lang/String;Ljava/lang/Throwable;ZZ)V"⟩
def yR : MethodName := ⟨"java/lang/RuntimeException", "<init>", "(Ljava/lang/String;Ljava/lang/Throwable;ZZ)V"⟩
set_option maxRecDepth 100000 in
theorem m_T : mok yT prog_23_method_5_code 5 none 4 := ⟨gwt_1 14 rfl rfl, gwt_7 47 rfl rfl, ⟨by decide +kernel, by decide +kernel, by decide +kernel⟩, by decide⟩
set_option maxRecDepth 100000 in
theorem m_E : mok yE prog_17_method_5_code 5 none 4 := ⟨gwt_1 15 rfl rfl, gwt_7 44 rfl rfl, ⟨by decide +kernel, by decide +kernel, by decide +kernel⟩, by decide⟩
set_option maxRecDepth 100000 in
theorem m_R : mok yR prog_21_method_5_code 5 none 4 := ⟨gwt_1 16 rfl rfl, gwt_7 41 rfl rfl, ⟨by decide +kernel, by decide +kernel, by decide +kernel⟩, by decide⟩
set_option maxRecDepth 100000 in
theorem im_T : Cond.instanceMethod yT ∈ gw := gwt_7 46 rfl rfl
set_option maxRecDepth 100000 in
theorem im_E : Cond.instanceMethod yE ∈ gw := gwt_7 43 rfl rfl
set_option maxRecDepth 100000 in
theorem im_R : Cond.instanceMethod yR ∈ gw := gwt_7 40 rfl rfl
set_option maxRecDepth 100000 in
theorem lT_E : lok "java/lang/Exception" 16 yT := Or.inl (gwt_7 45 rfl rfl)
set_option maxRecDepth 100000 in
theorem lE_R : lok "java/lang/RuntimeException" 16 yE := Or.inl (gwt_7 42 rfl rfl)
set_option maxRecDepth 100000 in
theorem lR_X : lok RX12 1 yR := Or.inl (gwt_7 39 rfl rfl)
set_option maxRecDepth 100000 in
theorem ob_T : Cond.methodLink RT 1 Lib.objectInit ∈ gw := gwt_7 22 rfl rfl
set_option maxRecDepth 100000 in
theorem fT_0 : Cond.fieldLink RT 7 RT (TX12 0).2.1 (TX12 0).2.2.1 ∈ gw := gwt_7 50 rfl rfl
set_option maxRecDepth 100000 in
theorem fT_1 : Cond.fieldLink RT 17 RT (TX12 1).2.1 (TX12 1).2.2.1 ∈ gw := gwt_7 51 rfl rfl
set_option maxRecDepth 100000 in
theorem fT_2 : Cond.fieldLink RT 24 RT (TX12 2).2.1 (TX12 2).2.2.1 ∈ gw := gwt_7 52 rfl rfl
set_option maxRecDepth 100000 in
theorem fT_3 : Cond.fieldLink RT 31 RT (TX12 3).2.1 (TX12 3).2.2.1 ∈ gw := gwt_7 49 rfl rfl
set_option maxRecDepth 100000 in
theorem zT_0 : Cond.fieldLink RT 13 RT "UNASSIGNED_STACK" "[Ljava/lang/StackTraceElement;" ∈ gw := gwt_7 23 rfl rfl
set_option maxRecDepth 100000 in
theorem zT_1 : Cond.fieldLink RT 20 RT "SUPPRESSED_SENTINEL" "Ljava/util/List;" ∈ gw := gwt_7 25 rfl rfl
abbrev cT : ByteArray := prog_23_method_5_code
theorem dT_0 : decode cT 0 = .ok (.aload_n 0, 1) := by decide +kernel
theorem dT_1 : decode cT 1 = .ok (.invokespecial 1, 3) := by decide +kernel
theorem dT_4 : decode cT 4 = .ok (.aload_n 0, 1) := by decide +kernel
theorem dT_5 : decode cT 5 = .ok (.aload_n 0, 1) := by decide +kernel
theorem dT_6 : decode cT 6 = .ok (.putfield 7, 3) := by decide +kernel
theorem dT_9 : decode cT 9 = .ok (.aload_n 0, 1) := by decide +kernel
theorem dT_10 : decode cT 10 = .ok (.getstatic 13, 3) := by decide +kernel
theorem dT_13 : decode cT 13 = .ok (.putfield 17, 3) := by decide +kernel
theorem dT_16 : decode cT 16 = .ok (.aload_n 0, 1) := by decide +kernel
theorem dT_17 : decode cT 17 = .ok (.getstatic 20, 3) := by decide +kernel
theorem dT_20 : decode cT 20 = .ok (.putfield 24, 3) := by decide +kernel
theorem dT_23 : decode cT 23 = .ok (.iload 4, 2) := by decide +kernel
theorem dT_25 : decode cT 25 = .ok (.ifCond .eq 11, 3) := by decide +kernel
theorem dT_36 : decode cT 36 = .ok (.aload_n 0, 1) := by decide +kernel
theorem dT_37 : decode cT 37 = .ok (.aconst_null, 1) := by decide +kernel
theorem dT_38 : decode cT 38 = .ok (.putfield 17, 3) := by decide +kernel
theorem dT_41 : decode cT 41 = .ok (.aload_n 0, 1) := by decide +kernel
theorem dT_42 : decode cT 42 = .ok (.aload_n 1, 1) := by decide +kernel
theorem dT_43 : decode cT 43 = .ok (.putfield 31, 3) := by decide +kernel
theorem dT_46 : decode cT 46 = .ok (.aload_n 0, 1) := by decide +kernel
theorem dT_47 : decode cT 47 = .ok (.aload_n 2, 1) := by decide +kernel
theorem dT_48 : decode cT 48 = .ok (.putfield 7, 3) := by decide +kernel
theorem dT_51 : decode cT 51 = .ok (.iload_n 3, 1) := by decide +kernel
theorem dT_52 : decode cT 52 = .ok (.ifCond .ne 8, 3) := by decide +kernel
theorem dT_55 : decode cT 55 = .ok (.aload_n 0, 1) := by decide +kernel
theorem dT_56 : decode cT 56 = .ok (.aconst_null, 1) := by decide +kernel
theorem dT_57 : decode cT 57 = .ok (.putfield 24, 3) := by decide +kernel
theorem dT_60 : decode cT 60 = .ok (.return_, 1) := by decide +kernel
def wT (G : Gx) (σ : Hp) (fs : List Value) : va_W := (wW G 68 σ).set 67 (G.2.2 + 67, .inr (12, fs))
theorem wT_at {G : Gx} {σ : Hp} {fs : List Value} : (wT G σ fs)[67]? = some (G.2.2 + 67, .inr (12, fs)) := by
  unfold wT
  rw [List.getElem?_set_self (by simp [wW])]
theorem wT_set {G : Gx} {σ : Hp} {fs gs : List Value} : (wT G σ fs).set 67 (G.2.2 + 67, .inr (12, gs)) = wT G σ gs := by
  unfold wT
  rw [List.set_set]
theorem wT_D {G : Gx} {σ : Hp} {fs : List Value} : va_D (fun q => G.2.2 ≤ q) (wT G σ fs) := wW_D.set (p := 67) (wW_at (by decide))
theorem wT_put {S : Sx} {p : Program} {l : Launch} {e : Env} {R : Room} {s : State} {m : MethodId} {args : Array Value} {below : List Frame} {meth : Method} {c : Code} {G : Gx} {H : Heap} {locs : List Loc} {ls : Array Slot} {cells slots : Nat} {Q : State → Prop} {σ : Hp} {fs rest : List Value} {pc idx : Nat} {v : Value} (C : CX S p R s m args meth c G) (hS : va_S (fun q => G.2.2 ≤ q) s.heap H locs) (hP : va_P G.1 cl_all (wT G σ fs) H) (k : Nat) (hk : k < 6)
    (ho : S.1.2.1 = RT) (hlink : Cond.fieldLink RT idx (TX12 k).1 (TX12 k).2.1 (TX12 k).2.2.1 ∈ gw) (hfin : (TX12 k).2.2.2 = false) (hn : narrow (tyX12 k) v = v) (hfit : fits (tyX12 k) v = true) (hl : k < fs.length) (hd : decode S.1.1 pc = .ok (.putfield idx, 3))
    (kk : ∀ (H1 : Heap) (locs1 : List Loc), va_P G.1 cl_all (wT G σ (fs.set k v)) H1 → va_S (fun q => G.2.2 ≤ q) s.heap H1 locs1 → W p l e R s m args below meth c H1 locs1 cells slots Q (F0 m (pc + 3) ls rest)) : W p l e R s m args below meth c H locs cells slots Q (F0 m pc ls (v :: .ref (G.2.2 + 67) :: rest)) := by
  refine va_put (own := RT) C.1 C.2.1 C.2.2.2.2.2.1 (cl_in 12 (RX12, TX12, 6) rfl) tyX12 tyX12_ok nmX12 (by rw [← ho]; exact C.own) C.kt.1 hP wT_D hS 67 wT_at rfl k hk (C.wd hlink) (fun x h => h) hfin (tyX12_ok k hk) hn hfit hl hd fun H1 locs1 hP1 hD1 hS1 => ?_
  rw [wT_set] at hP1
  exact kk H1 locs1 hP1 hS1
theorem Zq_v {C n d : String} {A : Nat → Prop} {U : State} {H : Heap} (h : va_Zq C n d A U H) : ∃ v, (v = .null ∨ ∃ t, v = .ref t) ∧ va_Z C n d v A U H := by
  rcases h with h | ⟨t, h⟩
  · exact ⟨_, Or.inl rfl, h⟩
  · exact ⟨_, Or.inr ⟨t, rfl⟩, h⟩
theorem nar_r {ty : FieldType} {v : Value} (ht : isR ty = true) (h : v = .null ∨ ∃ t, v = .ref t) : narrow ty v = v ∧ fits ty v = true := by
  rcases h with rfl | ⟨t, rfl⟩ <;> cases ty <;> first | exact ⟨rfl, rfl⟩ | cases ht
theorem c_T (σ : Hp) (h : ∀ k, gR σ 67 k = none) : Cx yT cT 5 none 1 68 68 [.ref 67, .null, .null, .int 0, .int 0] σ (fun o τ => o = .inl none ∧ τ = σ) := by
  refine Cx_of RT true (by decide) rfl (fun _ => rfl) (Nat.le_refl _) rfl (Nat.le_of_ble_eq_true rfl) ?_
  refine Wx_aload0 dT_0 ?_
  refine Wx_objInit ob_T ob_im ob_co dT_1 (Nat.le_refl _) (Nat.le_of_ble_eq_true rfl) ?_
  intro p l e R s m args below meth c G H locs ls C hn hH hl
  have hP := hH.1
  have hS := hH.2
  have e0 : wW G 68 σ = wT G σ [.null, .null, .null, .null, .null, .int (gI σ 67 5)] := by
    have e1 : wE G σ 67 = .inr (12, [.null, .null, .null, .null, .null, .int (gI σ 67 5)]) := by
      rw [wE_obj (ci := 12) rfl]
      simp [List.range, List.range.loop, cl_n, fv, cl_ty, tyX12, isI, h, rv, cv]
    unfold wT
    rw [← e1]
    exact (wW_set (fun j _ _ => rfl)).symm
  rw [e0] at hP
  obtain ⟨z0, hz0, hZ0⟩ := Zq_v C.kt.2.2.1
  obtain ⟨z1, hz1, hZ1⟩ := Zq_v C.kt.2.2.2
  refine lv_aload_n C.1 C.2.1 dT_4 rfl (lvx_at hl (i := 0) rfl rfl) ?_
  refine lv_aload_n C.1 C.2.1 dT_5 rfl (lvx_at hl (i := 0) rfl rfl) ?_
  refine wT_put C hS hP 0 (by decide) rfl fT_0 rfl rfl rfl (Nat.le_of_ble_eq_true rfl) dT_6 fun H locs hP hS => ?_
  refine lv_aload_n C.1 C.2.1 dT_9 rfl (lvx_at hl (i := 0) rfl rfl) ?_
  refine va_gets C.1 C.2.1 hZ0 hS C.own (C.wd zT_0) (fun x h => h) dT_10 ?_
  refine wT_put C hS hP 1 (by decide) rfl fT_1 rfl (nar_r rfl hz0).1 (nar_r rfl hz0).2 (Nat.le_of_ble_eq_true rfl) dT_13 fun H locs hP hS => ?_
  refine lv_aload_n C.1 C.2.1 dT_16 rfl (lvx_at hl (i := 0) rfl rfl) ?_
  refine va_gets C.1 C.2.1 hZ1 hS C.own (C.wd zT_1) (fun x h => h) dT_17 ?_
  refine wT_put C hS hP 2 (by decide) rfl fT_2 rfl (nar_r rfl hz1).1 (nar_r rfl hz1).2 (Nat.le_of_ble_eq_true rfl) dT_20 fun H locs hP hS => ?_
  refine lv_iload C.1 C.2.1 dT_23 (lvx_at hl (i := 4) (v := .int 0) rfl rfl) ?_
  refine lv_if_eq (tgt := 36) C.1 C.2.1 dT_25 (by decide) (fun _ => ?_) (fun h => absurd rfl h)
  refine lv_aload_n C.1 C.2.1 dT_36 rfl (lvx_at hl (i := 0) rfl rfl) ?_
  refine lv_null C.1 C.2.1 dT_37 ?_
  refine wT_put C hS hP 1 (by decide) rfl fT_1 rfl rfl rfl (Nat.le_of_ble_eq_true rfl) dT_38 fun H locs hP hS => ?_
  refine lv_aload_n C.1 C.2.1 dT_41 rfl (lvx_at hl (i := 0) rfl rfl) ?_
  refine lv_aload_nN C.1 C.2.1 dT_42 rfl (lvx_at hl (i := 1) (v := .null) rfl rfl) ?_
  refine wT_put C hS hP 3 (by decide) rfl fT_3 rfl rfl rfl (Nat.le_of_ble_eq_true rfl) dT_43 fun H locs hP hS => ?_
  refine lv_aload_n C.1 C.2.1 dT_46 rfl (lvx_at hl (i := 0) rfl rfl) ?_
  refine lv_aload_nN C.1 C.2.1 dT_47 rfl (lvx_at hl (i := 2) (v := .null) rfl rfl) ?_
  refine wT_put C hS hP 0 (by decide) rfl fT_0 rfl rfl rfl (Nat.le_of_ble_eq_true rfl) dT_48 fun H locs hP hS => ?_
  refine lv_iload_n C.1 C.2.1 dT_51 rfl (lvx_at hl (i := 3) (v := .int 0) rfl rfl) ?_
  refine lv_if_ne (tgt := 60) C.1 C.2.1 dT_52 (by decide) (fun h => absurd rfl h) (fun _ => ?_)
  refine lv_aload_n C.1 C.2.1 dT_55 rfl (lvx_at hl (i := 0) rfl rfl) ?_
  refine lv_null C.1 C.2.1 dT_56 ?_
  refine wT_put C hS hP 2 (by decide) rfl fT_2 rfl rfl rfl (Nat.le_of_ble_eq_true rfl) dT_57 fun H locs hP hS => ?_
  have hP : va_P G.1 cl_all (wW G 68 σ) H := by rw [e0]; exact hP
  exact Wx_return (S := ((cT, RT, none, 5, true), 1, 68, 68, false, fun o τ => o = .inl none ∧ τ = σ, fun _ _ => True)) (lv := []) dT_60 rfl rfl ⟨rfl, rfl⟩ p l e R s m args below meth c G H locs ls C hn ⟨hP, hS⟩ ⟨hl.1, hl.2.1, fun i v h => by simp at h⟩
def t_67 (σ : Hp) : Hp := σ
theorem dE_0 : decode prog_17_method_5_code 0 = .ok (.aload_n 0, 1) := by decide +kernel
theorem dE_1 : decode prog_17_method_5_code 1 = .ok (.aload_n 1, 1) := by decide +kernel
theorem dE_2 : decode prog_17_method_5_code 2 = .ok (.aload_n 2, 1) := by decide +kernel
theorem dE_3 : decode prog_17_method_5_code 3 = .ok (.iload_n 3, 1) := by decide +kernel
theorem dE_4 : decode prog_17_method_5_code 4 = .ok (.iload 4, 2) := by decide +kernel
theorem dE_6 : decode prog_17_method_5_code 6 = .ok (.invokespecial 16, 3) := by decide +kernel
theorem dE_9 : decode prog_17_method_5_code 9 = .ok (.return_, 1) := by decide +kernel
theorem dR_0 : decode prog_21_method_5_code 0 = .ok (.aload_n 0, 1) := by decide +kernel
theorem dR_1 : decode prog_21_method_5_code 1 = .ok (.aload_n 1, 1) := by decide +kernel
theorem dR_2 : decode prog_21_method_5_code 2 = .ok (.aload_n 2, 1) := by decide +kernel
theorem dR_3 : decode prog_21_method_5_code 3 = .ok (.iload_n 3, 1) := by decide +kernel
theorem dR_4 : decode prog_21_method_5_code 4 = .ok (.iload 4, 2) := by decide +kernel
theorem dR_6 : decode prog_21_method_5_code 6 = .ok (.invokespecial 16, 3) := by decide +kernel
theorem dR_9 : decode prog_21_method_5_code 9 = .ok (.return_, 1) := by decide +kernel
theorem Wx_nload1 {S : Sx} {n pc : Nat} {st : List Value} {σ : Hp} {a0 : Value} {tl : List Value} (hd : decode S.1.1 pc = .ok (.aload_n 1, 1)) (k : Wx S n (pc + 1) (a0 :: .null :: tl) (.null :: st) σ) : Wx S n pc (a0 :: .null :: tl) st σ := by
  intro p l e R s m args below meth c G H locs ls C hn hH hl
  exact lv_aload_nN C.1 C.2.1 hd rfl (lvx_at hl (i := 1) rfl rfl) (k p l e R s m args below meth c G H locs ls C hn hH hl)
theorem Wx_nload2 {S : Sx} {n pc : Nat} {st : List Value} {σ : Hp} {a0 a1 : Value} {tl : List Value} (hd : decode S.1.1 pc = .ok (.aload_n 2, 1)) (k : Wx S n (pc + 1) (a0 :: a1 :: .null :: tl) (.null :: st) σ) : Wx S n pc (a0 :: a1 :: .null :: tl) st σ := by
  intro p l e R s m args below meth c G H locs ls C hn hH hl
  exact lv_aload_nN C.1 C.2.1 hd rfl (lvx_at hl (i := 2) rfl rfl) (k p l e R s m args below meth c G H locs ls C hn hH hl)
theorem c_E (σ : Hp) (h : ∀ k, gR σ 67 k = none) : Cx yE prog_17_method_5_code 5 none 2 68 68 [.ref 67, .null, .null, .int 0, .int 0] σ (fun o τ => o = .inl none ∧ τ = σ) := by
  refine Cx_of "java/lang/Exception" true (by decide) rfl (fun _ => rfl) (Nat.le_refl _) rfl (Nat.le_of_ble_eq_true rfl) ?_
  refine Wx_aload0 dE_0 ?_
  refine Wx_nload1 dE_1 ?_
  refine Wx_nload2 dE_2 ?_
  refine Wx_iload3 dE_3 ?_
  refine Wx_iload4 dE_4 ?_
  refine Wx_ctor 67 [.null, .null, .int 0, .int 0] 4 m_T lT_E im_T rfl dE_6 (c_T _ h) (Nat.le_refl _) (Nat.le_refl _) (Nat.le_refl _) rfl (Nat.le_of_ble_eq_true rfl) rfl ?_
  exact Wx_return dE_9 rfl rfl ⟨rfl, rfl⟩
theorem c_R (σ : Hp) (h : ∀ k, gR σ 67 k = none) : Cx yR prog_21_method_5_code 5 none 3 68 68 [.ref 67, .null, .null, .int 0, .int 0] σ (fun o τ => o = .inl none ∧ τ = σ) := by
  refine Cx_of "java/lang/RuntimeException" true (by decide) rfl (fun _ => rfl) (Nat.le_refl _) rfl (Nat.le_of_ble_eq_true rfl) ?_
  refine Wx_aload0 dR_0 ?_
  refine Wx_nload1 dR_1 ?_
  refine Wx_nload2 dR_2 ?_
  refine Wx_iload3 dR_3 ?_
  refine Wx_iload4 dR_4 ?_
  refine Wx_ctor 67 [.null, .null, .int 0, .int 0] 4 m_E lE_R im_E rfl dR_6 (c_E _ h) (Nat.le_refl _) (Nat.le_refl _) (Nat.le_refl _) rfl (Nat.le_of_ble_eq_true rfl) rfl ?_
  exact Wx_return dR_9 rfl rfl ⟨rfl, rfl⟩
theorem dX12_init_0 : decode cX12_init 0 = .ok (.aload_n 0, 1) := by decide +kernel
theorem dX12_init_1 : decode cX12_init 1 = .ok (.aconst_null, 1) := by decide +kernel
theorem dX12_init_2 : decode cX12_init 2 = .ok (.aconst_null, 1) := by decide +kernel
theorem dX12_init_3 : decode cX12_init 3 = .ok (.iconst 0, 1) := by decide +kernel
theorem dX12_init_4 : decode cX12_init 4 = .ok (.iconst 0, 1) := by decide +kernel
theorem dX12_init_5 : decode cX12_init 5 = .ok (.invokespecial 1, 3) := by decide +kernel
theorem dX12_init_8 : decode cX12_init 8 = .ok (.return_, 1) := by decide +kernel
theorem c_67 (σ : Hp) (h : ∀ k, gR σ 67 k = none) : Cx yX12_init cX12_init 1 none 4 68 68 [.ref 67] σ (fun o τ => o = .inl none ∧ τ = t_67 σ) := by
  refine Cx_of RX12 true (by decide) rfl (fun _ => rfl) (Nat.le_refl _) rfl (Nat.le_of_ble_eq_true rfl) ?_
  refine Wx_aload0 dX12_init_0 ?_
  refine Wx_null dX12_init_1 ?_
  refine Wx_null dX12_init_2 ?_
  refine Wx_iconst (v := 0) dX12_init_3 (by decide) ?_
  refine Wx_iconst (v := 0) dX12_init_4 (by decide) ?_
  refine Wx_ctor 67 [.null, .null, .int 0, .int 0] 4 m_R lR_X im_R rfl dX12_init_5 (c_R _ h) (Nat.le_refl _) (Nat.le_refl _) (Nat.le_refl _) rfl (Nat.le_of_ble_eq_true rfl) rfl ?_
  exact Wx_return dX12_init_8 rfl rfl ⟨rfl, rfl⟩

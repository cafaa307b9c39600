theorem gA_rA_o {σ : Hp} {c c' : Nat} {r : Nat → Int32} (h : c' ≠ c) : gA (rA σ c r) c' = gA σ c' := gA_rA_ne σ r h
/-- the registers behind arm -/
def armR (f : Nat → Int32) (pl sk : Int32) : Nat → Int32 := fun j => if j = 5 then sk else if j = 7 then 28672 else if j = 6 then 12288 else if j = 3 then pl else cpy (fun _ => (0 : Int32)) f 8 j
def zero8 : Int32 := (0 : Int32).toInt8.toInt32
def armD (z sb st : Nat → Int32) (u s : Nat) : Nat → Int32 := wrS (w4 (va_cpy sb (cpy (fun _ => zero8) z 65536) 0 0 u) 8192 (nI u)) st (8 * s)
def armDM (z sb st : Nat → Int32) (u s : Nat) : Nat → Int32 := w4 (wrS (cpy (fun j => (sb j).toInt8.toInt32) (cpy (fun _ => zero8) z 65536) u) st (8 * s)) 8192 (nI u)
def armC (c : Nat) (σ : Hp) (pl sk : Int32) (m u s : Nat) : Hp := pI (pI (pI (pI (pI (pI (rA (rA (rA σ 53 (va_cpy (gA σ 45) (gA σ 53) 0 0 m)) 54 (armD (gA σ 54) (gA σ 2) (gA σ c) u s)) 51 (armR (gA σ 51) pl sk)) 50 3 (nI m)) 50 7 sk) 52 0 0) 50 5 65536) 50 6 0) 56 8 0
def armM (c c2 : Nat) (σ : Hp) (pl sk : Int32) (m u s : Nat) : Hp := pI (pI (pI (pI (rA (rA (rA σ 111 (cpy (fun j => (gA σ c2 j).toInt8.toInt32) (gA σ 111) m)) 112 (armDM (gA σ 112) (gA σ 69) (gA σ c) u s)) 113 (armR (gA σ 113) pl sk)) 66 50 (nI m)) 66 53 0) 66 54 65536) 66 55 0
theorem armC_21 (σ : Hp) (pl sk : Int32) (m u s : Nat) (hm : m ≤ 61440) : t_forget (t_prepare (t_fillSets_21 (t_fillData (t_clear (t_takeC σ m)) u) s) pl sk) = armC 26 σ pl sk m u s := by
  have e : min m 61440 = m := by omega
  unfold t_forget t_prepare t_goTo t_fill51 t_fillSets_21 t_fillData t_clear t_fill54 t_takeC
  rw [e, wW_eq]
  simp only [pA_pI, rA_pI, gA_pI, gA_rA, rA_rA, gA_rA_o, pA_rA, ne_eq, Nat.reduceEqDiff, not_false_eq_true]
  unfold armC armR armD zero8
  rfl
theorem armC_30 (σ : Hp) (pl sk : Int32) (m u s : Nat) (hm : m ≤ 61440) : t_forget (t_prepare (t_fillSets_30 (t_fillData (t_clear (t_takeC σ m)) u) s) pl sk) = armC 35 σ pl sk m u s := by
  have e : min m 61440 = m := by omega
  unfold t_forget t_prepare t_goTo t_fill51 t_fillSets_30 t_fillData t_clear t_fill54 t_takeC
  rw [e, wW_eq]
  simp only [pA_pI, rA_pI, gA_pI, gA_rA, rA_rA, gA_rA_o, pA_rA, ne_eq, Nat.reduceEqDiff, not_false_eq_true]
  unfold armC armR armD zero8
  rfl
theorem armM_87 (σ : Hp) (pl sk : Int32) (m u s : Nat) (k0 : ¬ gI σ 66 35 = 0) (k1 : ¬ pl < 0) (k2 : ¬ nI u < pl) (k3 : ¬ sk < 1) (k4 : sk ≤ 1000) : t_armM_87 σ pl sk m u s = armM 92 93 σ pl sk m u s := by
  rw [t_armM_87, if_neg k0, if_neg k1, if_neg k2, if_neg k3, if_pos k4, wWM_eq]
  simp only [pA_pI, rA_pI, gA_pI, gA_rA, rA_rA, gA_rA_o, pA_rA, ne_eq, Nat.reduceEqDiff, not_false_eq_true]
  unfold armM armR armDM zero8
  rfl
theorem armM_95 (σ : Hp) (pl sk : Int32) (m u s : Nat) (k0 : ¬ gI σ 66 35 = 0) (k1 : ¬ pl < 0) (k2 : ¬ nI u < pl) (k3 : ¬ sk < 1) (k4 : sk ≤ 1000) : t_armM_95 σ pl sk m u s = armM 100 101 σ pl sk m u s := by
  rw [t_armM_95, if_neg k0, if_neg k1, if_neg k2, if_neg k3, if_pos k4, wWM_eq]
  simp only [pA_pI, rA_pI, gA_pI, gA_rA, rA_rA, gA_rA_o, pA_rA, ne_eq, Nat.reduceEqDiff, not_false_eq_true]
  unfold armM armR armDM zero8
  rfl
theorem armD_eq {z z' sb sb' st st' : Nat → Int32} {u s k : Nat} (hk : k < 65536) (hu : u ≤ 4000) (hs : s ≤ 128) (h1 : ∀ i, i < u → sb i = sb' i) (h2 : ∀ i, i < 4000 → (sb i).toInt8.toInt32 = sb i) (h3 : ∀ i, i < 8 * s → st i = st' i) : armD z sb st u s k = armDM z' sb' st' u s k := by
  unfold armD armDM
  rw [wrS_w4 _ _ _ _ (by omega)]
  have key : wrS (va_cpy sb (cpy (fun _ => zero8) z 65536) 0 0 u) st (8 * s) k = wrS (cpy (fun j => (sb' j).toInt8.toInt32) (cpy (fun _ => zero8) z' 65536) u) st' (8 * s) k := by
    refine wrS_congr ?_ h3
    by_cases h : k < u
    · rw [pk_cpy_in (Nat.zero_le k) (by omega), show 0 + (k - 0) = k from by omega]
      unfold cpy
      rw [if_pos h]
      show sb k = (sb' k).toInt8.toInt32
      rw [← h1 k h, h2 k (by omega)]
    · rw [pk_cpy_out (Or.inr (by omega))]
      unfold cpy
      rw [if_pos hk, if_neg h, if_pos hk]
  unfold w4
  rw [key]
theorem armD_B {z sb st : Nat → Int32} {u s k : Nat} (hk : k < 65536) (h2 : ∀ i, i < 4000 → (sb i).toInt8.toInt32 = sb i) (hu : u ≤ 4000) : (armD z sb st u s k).toInt8.toInt32 = armD z sb st u s k := by
  unfold armD
  refine wrS_B (w4_B ?_) _
  by_cases h : k < u
  · rw [pk_cpy_in (Nat.zero_le k) (by omega), show 0 + (k - 0) = k from by omega]; exact h2 k (by omega)
  · rw [pk_cpy_out (Or.inr (by omega))]
    unfold cpy
    rw [if_pos hk]
    rfl
theorem armR_eq {f g : Nat → Int32} {pl sk : Int32} {k : Nat} (hk : k < 8) : armR f pl sk k = armR g pl sk k := by
  unfold armR cpy
  rw [if_pos hk, if_pos hk]
theorem arm_both_21_87 {PX : PXt} {CK : CKt} {j : Nat} (hj : j < 64) {σ : Hp} (H : Inv PX CK j σ) (r1 : gR σ 0 9 = some 21) (r3 : gR σ 66 34 = some 87) (h : gI σ 66 35 = 1) (hm : PMat 21 87 σ) (a1 a2 : Int32) (k1 : ¬ a1 < 0) (k2 : a1 ≤ gI σ 0 3) (k3 : ¬ a2 < 1) (k4 : a2 ≤ 1000) (d : Nat) :
    ∃ m u s : Nat, (m ≤ 61440 ∧ u ≤ 1280 ∧ s ≤ 128 ∧ gI σ 0 3 = nI u ∧ gI σ 21 12 = nI m ∧ gI σ 21 11 = nI s) ∧ Cx yX11_arm cX11_arm 4 (some .boolean) (d + 3) 122 122 [.ref 0, .int a1, .int a2] σ (fun o τ => o = .inl (some (.int 1)) ∧ τ = armC 26 σ a1 a2 m u s) ∧ Cx yX14_arm cX14_arm 4 (some .boolean) (d + 1) 122 122 [.ref 66, .int a1, .int a2] (armC 26 σ a1 a2 m u s) (fun o τ => o = .inl (some (.int 1)) ∧ τ = armM 92 93 (armC 26 σ a1 a2 m u s) a1 a2 m u s) ∧ Inv PX CK (j + 1) (armM 92 93 (armC 26 σ a1 a2 m u s) a1 a2 m u s) := by
  obtain ⟨u, hu, e3, e4, eS, bS⟩ := H.subj
  obtain ⟨R, n, s, m, yb, ⟨y1, y2⟩, _, _, ⟨y6, y7⟩, ⟨y8, y9⟩, _, ysets, yimg, _⟩ := hm
  obtain ⟨P, P', Q, Q', hP, hQ, z1, z2, z3, z4, hb, hm2⟩ := H.prog
  obtain ⟨⟨m0, hm0, e5, e6, _⟩, p2, hr, hf, hg, he, hs, hd, hd2⟩ := H.proc
  have hR0 : ¬ gI σ 21 8 = 0 := by
    rw [y1]; intro z
    have := (cEq (a := R) (b := 0) rfl rfl (by omega) (by omega)).mp z
    omega
  have k4' : ¬ 1000 < a2 := Int32.not_lt.mpr k4
  have k2n : a1 ≤ nI u := by rw [← e3]; exact k2
  have c1 := Cx_to (w_arm_21 d σ a1 a2 m u s H.rf r1 y8 e3 y6 yb.2.2.2.2 (by omega) yb.2.2.2.1 (fun k hk => fits8 (hb k hk)) (fun k hk => fits8 (bS k hk))) (show r_arm_21 σ a1 a2 m u s = 1 by rw [r_arm_21, if_neg k3, if_neg k4', if_neg hR0, if_neg k1, if_pos k2n]) (show t_arm_21 σ a1 a2 m u s = armC 26 σ a1 a2 m u s by rw [t_arm_21, if_neg k3, if_neg k4', if_neg hR0, if_neg k1, if_pos k2n, armC_21 _ _ _ _ _ _ yb.2.2.2.2])
  have hRt : Rf (armC 26 σ a1 a2 m u s) := Rf_pI (Rf_pI (Rf_pI (Rf_pI (Rf_pI (Rf_pI (Rf_rA (Rf_rA (Rf_rA H.rf))))))))
  have h0 : ¬ gI (armC 26 σ a1 a2 m u s) 66 35 = 0 := by
    show ¬ gI σ 66 35 = 0
    rw [h]; decide
  have k2' : ¬ nI u < a1 := by rw [← e3]; exact Int32.not_lt.mpr k2
  have c2 := Cx_to (w_armM_87 d (armC 26 σ a1 a2 m u s) a1 a2 m u s hRt r3 y9 e4 y7 yb.2.2.2.2 (by omega) yb.2.2.2.1) (show r_armM_87 (armC 26 σ a1 a2 m u s) a1 a2 m u s = 1 by rw [r_armM_87, if_neg h0, if_neg k1, if_neg k2', if_neg k3, if_pos k4]) (armM_87 _ a1 a2 m u s h0 k1 k2' k3 k4)
  refine ⟨m, u, s, ⟨yb.2.2.2.2, by omega, yb.2.2.2.1, e3, y8, y6⟩, c1, c2, ?_⟩
  refine ⟨Rf_pI (Rf_pI (Rf_pI (Rf_pI (Rf_rA (Rf_rA (Rf_rA hRt)))))), H.tape.up, H.subj.up, H.flt, H.prog.keep (keep_pI (keep_pI (keep_pI (keep_pI (keep_rA (keep_rA (keep_rA (keep_pI (keep_pI (keep_pI (keep_pI (keep_pI (keep_pI (keep_rA (keep_rA (keep_rA (keep_0 σ) rfl) rfl) rfl) rfl) rfl) rfl) rfl) rfl) rfl) rfl) rfl) rfl) rfl) rfl) rfl) rfl) rfl rfl, ⟨⟨m, yb.2.2.2.2, rfl, rfl, ?_⟩, ?_, ?_, rfl, (show (0 : Int32) &&& 2261 = 0 by decide), rfl, rfl, ?_, ?_⟩, Or.inl rfl, H.out, H.own⟩
  · intro k hk
    show va_cpy (gA σ 45) (gA σ 53) 0 0 m k = (if k < m then (gA σ 93 k).toInt8.toInt32 else _)
    rw [pk_cpy_in (Nat.zero_le k) (by omega), if_pos hk, show 0 + (k - 0) = k from by omega]
    have yy := yimg k hk
    simp only [Nat.reduceAdd] at yy
    rw [← yy.1, yy.2]
  · intro k hk
    show (va_cpy (gA σ 45) (gA σ 53) 0 0 m k).toInt8.toInt32 = va_cpy (gA σ 45) (gA σ 53) 0 0 m k
    by_cases h : k < m
    · rw [pk_cpy_in (Nat.zero_le k) (by omega), show 0 + (k - 0) = k from by omega]; exact hb k hk
    · rw [pk_cpy_out (Or.inr (by omega))]; exact p2 k hk
  · intro k hk
    exact armR_eq hk
  · intro k hk
    exact armD_eq hk (by omega) yb.2.2.2.1 eS bS ysets
  · intro k hk
    exact armD_B hk bS (by omega)
theorem arm_no_21_87 {PX : PXt} {CK : CKt} {j : Nat} (hj : j < 64) {σ : Hp} (H : Inv PX CK j σ) (r1 : gR σ 0 9 = some 21) (r3 : gR σ 66 34 = some 87) (a1 a2 : Int32) (hm : (gI σ 66 35 = 0 ∧ gI σ 21 8 = 0 ∧ gI σ 21 9 = 0 ∧ gI σ 21 10 = 0 ∧ gI σ 21 11 = 0 ∧ gI σ 21 12 = 0 ∧ gI σ 87 0 = 0 ∧ gI σ 87 2 = 0 ∧ gI σ 87 3 = 0 ∧ gI σ 87 4 = 0) ∨ (gI σ 66 35 = 1 ∧ PMat 21 87 σ ∧ (a1 < 0 ∨ ¬ a1 ≤ gI σ 0 3 ∨ a2 < 1 ∨ ¬ a2 ≤ 1000))) (d : Nat) :
    Cx yX11_arm cX11_arm 4 (some .boolean) (d + 3) 122 122 [.ref 0, .int a1, .int a2] σ (fun o τ => o = .inl (some (.int 0)) ∧ τ = σ) ∧ Cx yX14_arm cX14_arm 4 (some .boolean) (d + 1) 122 122 [.ref 66, .int a1, .int a2] σ (fun o τ => o = .inl (some (.int 0)) ∧ τ = σ) := by
  obtain ⟨u, hu, e3, e4, eS, bS⟩ := H.subj
  obtain ⟨P, P', Q, Q', hP, hQ, z1, z2, z3, z4, hb, hm2⟩ := H.prog
  obtain ⟨m, s, hm1, hs1, x1, x2, x3, x4⟩ : ∃ m s : Nat, m ≤ 61440 ∧ s ≤ 128 ∧ gI σ 21 12 = nI m ∧ gI σ 21 11 = nI s ∧ gI σ 87 4 = nI m ∧ gI σ 87 3 = nI s := by
    rcases hm with ⟨_, _, _, _, q1, q2, _, _, q3, q4⟩ | ⟨_, ⟨R, n, s, m, yb, _, _, _, ⟨y6, y7⟩, ⟨y8, y9⟩, _⟩, _⟩
    · exact ⟨0, 0, by omega, by omega, q2, q1, q4, q3⟩
    · exact ⟨m, s, yb.2.2.2.2, yb.2.2.2.1, y8, y6, y9, y7⟩
  have eR : r_arm_21 σ a1 a2 m u s = 0 ∧ t_arm_21 σ a1 a2 m u s = σ := by
    unfold r_arm_21 t_arm_21
    by_cases k3 : a2 < 1
    · simp only [if_pos k3, and_self]
    · by_cases k4 : 1000 < a2
      · simp only [if_neg k3, if_pos k4, and_self]
      · by_cases k0 : gI σ 21 8 = 0
        · simp only [if_neg k3, if_neg k4, if_pos k0, and_self]
        · by_cases k1 : a1 < 0
          · simp only [if_neg k3, if_neg k4, if_neg k0, if_pos k1, and_self]
          · by_cases k2 : a1 ≤ nI u
            · exfalso
              rcases hm with ⟨_, q, _⟩ | ⟨_, _, q⟩
              · exact k0 q
              · rcases q with q | q | q | q
                · exact k1 q
                · exact q (by rw [e3]; exact k2)
                · exact k3 q
                · exact q (Int32.not_lt.mp k4)
            · simp only [if_neg k3, if_neg k4, if_neg k0, if_neg k1, if_neg k2, and_self]
  have eM : r_armM_87 σ a1 a2 m u s = 0 ∧ t_armM_87 σ a1 a2 m u s = σ := by
    unfold r_armM_87 t_armM_87
    by_cases k0 : gI σ 66 35 = 0
    · simp only [if_pos k0, and_self]
    · by_cases k1 : a1 < 0
      · simp only [if_neg k0, if_pos k1, and_self]
      · by_cases k2 : nI u < a1
        · simp only [if_neg k0, if_neg k1, if_pos k2, and_self]
        · by_cases k3 : a2 < 1
          · simp only [if_neg k0, if_neg k1, if_neg k2, if_pos k3, and_self]
          · by_cases k4 : a2 ≤ 1000
            · exfalso
              rcases hm with ⟨q, _⟩ | ⟨_, _, q⟩
              · exact k0 q
              · rcases q with q | q | q | q
                · exact k1 q
                · exact q (by rw [e3]; exact Int32.not_lt.mp k2)
                · exact k3 q
                · exact q k4
            · simp only [if_neg k0, if_neg k1, if_neg k2, if_neg k3, if_neg k4, and_self]
  exact ⟨Cx_to (w_arm_21 d σ a1 a2 m u s H.rf r1 x1 e3 x2 hm1 (by omega) hs1 (fun k hk => fits8 (hb k hk)) (fun k hk => fits8 (bS k hk))) eR.1 eR.2, Cx_to (w_armM_87 d σ a1 a2 m u s H.rf r3 x3 e4 x4 hm1 (by omega) hs1) eM.1 eM.2⟩
theorem arm_both_21_95 {PX : PXt} {CK : CKt} {j : Nat} (hj : j < 64) {σ : Hp} (H : Inv PX CK j σ) (r1 : gR σ 0 9 = some 21) (r3 : gR σ 66 34 = some 95) (h : gI σ 66 35 = 1) (hm : PMat 21 95 σ) (a1 a2 : Int32) (k1 : ¬ a1 < 0) (k2 : a1 ≤ gI σ 0 3) (k3 : ¬ a2 < 1) (k4 : a2 ≤ 1000) (d : Nat) :
    ∃ m u s : Nat, (m ≤ 61440 ∧ u ≤ 1280 ∧ s ≤ 128 ∧ gI σ 0 3 = nI u ∧ gI σ 21 12 = nI m ∧ gI σ 21 11 = nI s) ∧ Cx yX11_arm cX11_arm 4 (some .boolean) (d + 3) 122 122 [.ref 0, .int a1, .int a2] σ (fun o τ => o = .inl (some (.int 1)) ∧ τ = armC 26 σ a1 a2 m u s) ∧ Cx yX14_arm cX14_arm 4 (some .boolean) (d + 1) 122 122 [.ref 66, .int a1, .int a2] (armC 26 σ a1 a2 m u s) (fun o τ => o = .inl (some (.int 1)) ∧ τ = armM 100 101 (armC 26 σ a1 a2 m u s) a1 a2 m u s) ∧ Inv PX CK (j + 1) (armM 100 101 (armC 26 σ a1 a2 m u s) a1 a2 m u s) := by
  obtain ⟨u, hu, e3, e4, eS, bS⟩ := H.subj
  obtain ⟨R, n, s, m, yb, ⟨y1, y2⟩, _, _, ⟨y6, y7⟩, ⟨y8, y9⟩, _, ysets, yimg, _⟩ := hm
  obtain ⟨P, P', Q, Q', hP, hQ, z1, z2, z3, z4, hb, hm2⟩ := H.prog
  obtain ⟨⟨m0, hm0, e5, e6, _⟩, p2, hr, hf, hg, he, hs, hd, hd2⟩ := H.proc
  have hR0 : ¬ gI σ 21 8 = 0 := by
    rw [y1]; intro z
    have := (cEq (a := R) (b := 0) rfl rfl (by omega) (by omega)).mp z
    omega
  have k4' : ¬ 1000 < a2 := Int32.not_lt.mpr k4
  have k2n : a1 ≤ nI u := by rw [← e3]; exact k2
  have c1 := Cx_to (w_arm_21 d σ a1 a2 m u s H.rf r1 y8 e3 y6 yb.2.2.2.2 (by omega) yb.2.2.2.1 (fun k hk => fits8 (hb k hk)) (fun k hk => fits8 (bS k hk))) (show r_arm_21 σ a1 a2 m u s = 1 by rw [r_arm_21, if_neg k3, if_neg k4', if_neg hR0, if_neg k1, if_pos k2n]) (show t_arm_21 σ a1 a2 m u s = armC 26 σ a1 a2 m u s by rw [t_arm_21, if_neg k3, if_neg k4', if_neg hR0, if_neg k1, if_pos k2n, armC_21 _ _ _ _ _ _ yb.2.2.2.2])
  have hRt : Rf (armC 26 σ a1 a2 m u s) := Rf_pI (Rf_pI (Rf_pI (Rf_pI (Rf_pI (Rf_pI (Rf_rA (Rf_rA (Rf_rA H.rf))))))))
  have h0 : ¬ gI (armC 26 σ a1 a2 m u s) 66 35 = 0 := by
    show ¬ gI σ 66 35 = 0
    rw [h]; decide
  have k2' : ¬ nI u < a1 := by rw [← e3]; exact Int32.not_lt.mpr k2
  have c2 := Cx_to (w_armM_95 d (armC 26 σ a1 a2 m u s) a1 a2 m u s hRt r3 y9 e4 y7 yb.2.2.2.2 (by omega) yb.2.2.2.1) (show r_armM_95 (armC 26 σ a1 a2 m u s) a1 a2 m u s = 1 by rw [r_armM_95, if_neg h0, if_neg k1, if_neg k2', if_neg k3, if_pos k4]) (armM_95 _ a1 a2 m u s h0 k1 k2' k3 k4)
  refine ⟨m, u, s, ⟨yb.2.2.2.2, by omega, yb.2.2.2.1, e3, y8, y6⟩, c1, c2, ?_⟩
  refine ⟨Rf_pI (Rf_pI (Rf_pI (Rf_pI (Rf_rA (Rf_rA (Rf_rA hRt)))))), H.tape.up, H.subj.up, H.flt, H.prog.keep (keep_pI (keep_pI (keep_pI (keep_pI (keep_rA (keep_rA (keep_rA (keep_pI (keep_pI (keep_pI (keep_pI (keep_pI (keep_pI (keep_rA (keep_rA (keep_rA (keep_0 σ) rfl) rfl) rfl) rfl) rfl) rfl) rfl) rfl) rfl) rfl) rfl) rfl) rfl) rfl) rfl) rfl) rfl rfl, ⟨⟨m, yb.2.2.2.2, rfl, rfl, ?_⟩, ?_, ?_, rfl, (show (0 : Int32) &&& 2261 = 0 by decide), rfl, rfl, ?_, ?_⟩, Or.inl rfl, H.out, H.own⟩
  · intro k hk
    show va_cpy (gA σ 45) (gA σ 53) 0 0 m k = (if k < m then (gA σ 101 k).toInt8.toInt32 else _)
    rw [pk_cpy_in (Nat.zero_le k) (by omega), if_pos hk, show 0 + (k - 0) = k from by omega]
    have yy := yimg k hk
    simp only [Nat.reduceAdd] at yy
    rw [← yy.1, yy.2]
  · intro k hk
    show (va_cpy (gA σ 45) (gA σ 53) 0 0 m k).toInt8.toInt32 = va_cpy (gA σ 45) (gA σ 53) 0 0 m k
    by_cases h : k < m
    · rw [pk_cpy_in (Nat.zero_le k) (by omega), show 0 + (k - 0) = k from by omega]; exact hb k hk
    · rw [pk_cpy_out (Or.inr (by omega))]; exact p2 k hk
  · intro k hk
    exact armR_eq hk
  · intro k hk
    exact armD_eq hk (by omega) yb.2.2.2.1 eS bS ysets
  · intro k hk
    exact armD_B hk bS (by omega)
theorem arm_no_21_95 {PX : PXt} {CK : CKt} {j : Nat} (hj : j < 64) {σ : Hp} (H : Inv PX CK j σ) (r1 : gR σ 0 9 = some 21) (r3 : gR σ 66 34 = some 95) (a1 a2 : Int32) (hm : (gI σ 66 35 = 0 ∧ gI σ 21 8 = 0 ∧ gI σ 21 9 = 0 ∧ gI σ 21 10 = 0 ∧ gI σ 21 11 = 0 ∧ gI σ 21 12 = 0 ∧ gI σ 95 0 = 0 ∧ gI σ 95 2 = 0 ∧ gI σ 95 3 = 0 ∧ gI σ 95 4 = 0) ∨ (gI σ 66 35 = 1 ∧ PMat 21 95 σ ∧ (a1 < 0 ∨ ¬ a1 ≤ gI σ 0 3 ∨ a2 < 1 ∨ ¬ a2 ≤ 1000))) (d : Nat) :
    Cx yX11_arm cX11_arm 4 (some .boolean) (d + 3) 122 122 [.ref 0, .int a1, .int a2] σ (fun o τ => o = .inl (some (.int 0)) ∧ τ = σ) ∧ Cx yX14_arm cX14_arm 4 (some .boolean) (d + 1) 122 122 [.ref 66, .int a1, .int a2] σ (fun o τ => o = .inl (some (.int 0)) ∧ τ = σ) := by
  obtain ⟨u, hu, e3, e4, eS, bS⟩ := H.subj
  obtain ⟨P, P', Q, Q', hP, hQ, z1, z2, z3, z4, hb, hm2⟩ := H.prog
  obtain ⟨m, s, hm1, hs1, x1, x2, x3, x4⟩ : ∃ m s : Nat, m ≤ 61440 ∧ s ≤ 128 ∧ gI σ 21 12 = nI m ∧ gI σ 21 11 = nI s ∧ gI σ 95 4 = nI m ∧ gI σ 95 3 = nI s := by
    rcases hm with ⟨_, _, _, _, q1, q2, _, _, q3, q4⟩ | ⟨_, ⟨R, n, s, m, yb, _, _, _, ⟨y6, y7⟩, ⟨y8, y9⟩, _⟩, _⟩
    · exact ⟨0, 0, by omega, by omega, q2, q1, q4, q3⟩
    · exact ⟨m, s, yb.2.2.2.2, yb.2.2.2.1, y8, y6, y9, y7⟩
  have eR : r_arm_21 σ a1 a2 m u s = 0 ∧ t_arm_21 σ a1 a2 m u s = σ := by
    unfold r_arm_21 t_arm_21
    by_cases k3 : a2 < 1
    · simp only [if_pos k3, and_self]
    · by_cases k4 : 1000 < a2
      · simp only [if_neg k3, if_pos k4, and_self]
      · by_cases k0 : gI σ 21 8 = 0
        · simp only [if_neg k3, if_neg k4, if_pos k0, and_self]
        · by_cases k1 : a1 < 0
          · simp only [if_neg k3, if_neg k4, if_neg k0, if_pos k1, and_self]
          · by_cases k2 : a1 ≤ nI u
            · exfalso
              rcases hm with ⟨_, q, _⟩ | ⟨_, _, q⟩
              · exact k0 q
              · rcases q with q | q | q | q
                · exact k1 q
                · exact q (by rw [e3]; exact k2)
                · exact k3 q
                · exact q (Int32.not_lt.mp k4)
            · simp only [if_neg k3, if_neg k4, if_neg k0, if_neg k1, if_neg k2, and_self]
  have eM : r_armM_95 σ a1 a2 m u s = 0 ∧ t_armM_95 σ a1 a2 m u s = σ := by
    unfold r_armM_95 t_armM_95
    by_cases k0 : gI σ 66 35 = 0
    · simp only [if_pos k0, and_self]
    · by_cases k1 : a1 < 0
      · simp only [if_neg k0, if_pos k1, and_self]
      · by_cases k2 : nI u < a1
        · simp only [if_neg k0, if_neg k1, if_pos k2, and_self]
        · by_cases k3 : a2 < 1
          · simp only [if_neg k0, if_neg k1, if_neg k2, if_pos k3, and_self]
          · by_cases k4 : a2 ≤ 1000
            · exfalso
              rcases hm with ⟨q, _⟩ | ⟨_, _, q⟩
              · exact k0 q
              · rcases q with q | q | q | q
                · exact k1 q
                · exact q (by rw [e3]; exact Int32.not_lt.mp k2)
                · exact k3 q
                · exact q k4
            · simp only [if_neg k0, if_neg k1, if_neg k2, if_neg k3, if_neg k4, and_self]
  exact ⟨Cx_to (w_arm_21 d σ a1 a2 m u s H.rf r1 x1 e3 x2 hm1 (by omega) hs1 (fun k hk => fits8 (hb k hk)) (fun k hk => fits8 (bS k hk))) eR.1 eR.2, Cx_to (w_armM_95 d σ a1 a2 m u s H.rf r3 x3 e4 x4 hm1 (by omega) hs1) eM.1 eM.2⟩
theorem arm_both_30_87 {PX : PXt} {CK : CKt} {j : Nat} (hj : j < 64) {σ : Hp} (H : Inv PX CK j σ) (r1 : gR σ 0 9 = some 30) (r3 : gR σ 66 34 = some 87) (h : gI σ 66 35 = 1) (hm : PMat 30 87 σ) (a1 a2 : Int32) (k1 : ¬ a1 < 0) (k2 : a1 ≤ gI σ 0 3) (k3 : ¬ a2 < 1) (k4 : a2 ≤ 1000) (d : Nat) :
    ∃ m u s : Nat, (m ≤ 61440 ∧ u ≤ 1280 ∧ s ≤ 128 ∧ gI σ 0 3 = nI u ∧ gI σ 30 12 = nI m ∧ gI σ 30 11 = nI s) ∧ Cx yX11_arm cX11_arm 4 (some .boolean) (d + 3) 122 122 [.ref 0, .int a1, .int a2] σ (fun o τ => o = .inl (some (.int 1)) ∧ τ = armC 35 σ a1 a2 m u s) ∧ Cx yX14_arm cX14_arm 4 (some .boolean) (d + 1) 122 122 [.ref 66, .int a1, .int a2] (armC 35 σ a1 a2 m u s) (fun o τ => o = .inl (some (.int 1)) ∧ τ = armM 92 93 (armC 35 σ a1 a2 m u s) a1 a2 m u s) ∧ Inv PX CK (j + 1) (armM 92 93 (armC 35 σ a1 a2 m u s) a1 a2 m u s) := by
  obtain ⟨u, hu, e3, e4, eS, bS⟩ := H.subj
  obtain ⟨R, n, s, m, yb, ⟨y1, y2⟩, _, _, ⟨y6, y7⟩, ⟨y8, y9⟩, _, ysets, yimg, _⟩ := hm
  obtain ⟨P, P', Q, Q', hP, hQ, z1, z2, z3, z4, hb, hm2⟩ := H.prog
  obtain ⟨⟨m0, hm0, e5, e6, _⟩, p2, hr, hf, hg, he, hs, hd, hd2⟩ := H.proc
  have hR0 : ¬ gI σ 30 8 = 0 := by
    rw [y1]; intro z
    have := (cEq (a := R) (b := 0) rfl rfl (by omega) (by omega)).mp z
    omega
  have k4' : ¬ 1000 < a2 := Int32.not_lt.mpr k4
  have k2n : a1 ≤ nI u := by rw [← e3]; exact k2
  have c1 := Cx_to (w_arm_30 d σ a1 a2 m u s H.rf r1 y8 e3 y6 yb.2.2.2.2 (by omega) yb.2.2.2.1 (fun k hk => fits8 (hb k hk)) (fun k hk => fits8 (bS k hk))) (show r_arm_30 σ a1 a2 m u s = 1 by rw [r_arm_30, if_neg k3, if_neg k4', if_neg hR0, if_neg k1, if_pos k2n]) (show t_arm_30 σ a1 a2 m u s = armC 35 σ a1 a2 m u s by rw [t_arm_30, if_neg k3, if_neg k4', if_neg hR0, if_neg k1, if_pos k2n, armC_30 _ _ _ _ _ _ yb.2.2.2.2])
  have hRt : Rf (armC 35 σ a1 a2 m u s) := Rf_pI (Rf_pI (Rf_pI (Rf_pI (Rf_pI (Rf_pI (Rf_rA (Rf_rA (Rf_rA H.rf))))))))
  have h0 : ¬ gI (armC 35 σ a1 a2 m u s) 66 35 = 0 := by
    show ¬ gI σ 66 35 = 0
    rw [h]; decide
  have k2' : ¬ nI u < a1 := by rw [← e3]; exact Int32.not_lt.mpr k2
  have c2 := Cx_to (w_armM_87 d (armC 35 σ a1 a2 m u s) a1 a2 m u s hRt r3 y9 e4 y7 yb.2.2.2.2 (by omega) yb.2.2.2.1) (show r_armM_87 (armC 35 σ a1 a2 m u s) a1 a2 m u s = 1 by rw [r_armM_87, if_neg h0, if_neg k1, if_neg k2', if_neg k3, if_pos k4]) (armM_87 _ a1 a2 m u s h0 k1 k2' k3 k4)
  refine ⟨m, u, s, ⟨yb.2.2.2.2, by omega, yb.2.2.2.1, e3, y8, y6⟩, c1, c2, ?_⟩
  refine ⟨Rf_pI (Rf_pI (Rf_pI (Rf_pI (Rf_rA (Rf_rA (Rf_rA hRt)))))), H.tape.up, H.subj.up, H.flt, H.prog.keep (keep_pI (keep_pI (keep_pI (keep_pI (keep_rA (keep_rA (keep_rA (keep_pI (keep_pI (keep_pI (keep_pI (keep_pI (keep_pI (keep_rA (keep_rA (keep_rA (keep_0 σ) rfl) rfl) rfl) rfl) rfl) rfl) rfl) rfl) rfl) rfl) rfl) rfl) rfl) rfl) rfl) rfl) rfl rfl, ⟨⟨m, yb.2.2.2.2, rfl, rfl, ?_⟩, ?_, ?_, rfl, (show (0 : Int32) &&& 2261 = 0 by decide), rfl, rfl, ?_, ?_⟩, Or.inl rfl, H.out, H.own⟩
  · intro k hk
    show va_cpy (gA σ 45) (gA σ 53) 0 0 m k = (if k < m then (gA σ 93 k).toInt8.toInt32 else _)
    rw [pk_cpy_in (Nat.zero_le k) (by omega), if_pos hk, show 0 + (k - 0) = k from by omega]
    have yy := yimg k hk
    simp only [Nat.reduceAdd] at yy
    rw [← yy.1, yy.2]
  · intro k hk
    show (va_cpy (gA σ 45) (gA σ 53) 0 0 m k).toInt8.toInt32 = va_cpy (gA σ 45) (gA σ 53) 0 0 m k
    by_cases h : k < m
    · rw [pk_cpy_in (Nat.zero_le k) (by omega), show 0 + (k - 0) = k from by omega]; exact hb k hk
    · rw [pk_cpy_out (Or.inr (by omega))]; exact p2 k hk
  · intro k hk
    exact armR_eq hk
  · intro k hk
    exact armD_eq hk (by omega) yb.2.2.2.1 eS bS ysets
  · intro k hk
    exact armD_B hk bS (by omega)
theorem arm_no_30_87 {PX : PXt} {CK : CKt} {j : Nat} (hj : j < 64) {σ : Hp} (H : Inv PX CK j σ) (r1 : gR σ 0 9 = some 30) (r3 : gR σ 66 34 = some 87) (a1 a2 : Int32) (hm : (gI σ 66 35 = 0 ∧ gI σ 30 8 = 0 ∧ gI σ 30 9 = 0 ∧ gI σ 30 10 = 0 ∧ gI σ 30 11 = 0 ∧ gI σ 30 12 = 0 ∧ gI σ 87 0 = 0 ∧ gI σ 87 2 = 0 ∧ gI σ 87 3 = 0 ∧ gI σ 87 4 = 0) ∨ (gI σ 66 35 = 1 ∧ PMat 30 87 σ ∧ (a1 < 0 ∨ ¬ a1 ≤ gI σ 0 3 ∨ a2 < 1 ∨ ¬ a2 ≤ 1000))) (d : Nat) :
    Cx yX11_arm cX11_arm 4 (some .boolean) (d + 3) 122 122 [.ref 0, .int a1, .int a2] σ (fun o τ => o = .inl (some (.int 0)) ∧ τ = σ) ∧ Cx yX14_arm cX14_arm 4 (some .boolean) (d + 1) 122 122 [.ref 66, .int a1, .int a2] σ (fun o τ => o = .inl (some (.int 0)) ∧ τ = σ) := by
  obtain ⟨u, hu, e3, e4, eS, bS⟩ := H.subj
  obtain ⟨P, P', Q, Q', hP, hQ, z1, z2, z3, z4, hb, hm2⟩ := H.prog
  obtain ⟨m, s, hm1, hs1, x1, x2, x3, x4⟩ : ∃ m s : Nat, m ≤ 61440 ∧ s ≤ 128 ∧ gI σ 30 12 = nI m ∧ gI σ 30 11 = nI s ∧ gI σ 87 4 = nI m ∧ gI σ 87 3 = nI s := by
    rcases hm with ⟨_, _, _, _, q1, q2, _, _, q3, q4⟩ | ⟨_, ⟨R, n, s, m, yb, _, _, _, ⟨y6, y7⟩, ⟨y8, y9⟩, _⟩, _⟩
    · exact ⟨0, 0, by omega, by omega, q2, q1, q4, q3⟩
    · exact ⟨m, s, yb.2.2.2.2, yb.2.2.2.1, y8, y6, y9, y7⟩
  have eR : r_arm_30 σ a1 a2 m u s = 0 ∧ t_arm_30 σ a1 a2 m u s = σ := by
    unfold r_arm_30 t_arm_30
    by_cases k3 : a2 < 1
    · simp only [if_pos k3, and_self]
    · by_cases k4 : 1000 < a2
      · simp only [if_neg k3, if_pos k4, and_self]
      · by_cases k0 : gI σ 30 8 = 0
        · simp only [if_neg k3, if_neg k4, if_pos k0, and_self]
        · by_cases k1 : a1 < 0
          · simp only [if_neg k3, if_neg k4, if_neg k0, if_pos k1, and_self]
          · by_cases k2 : a1 ≤ nI u
            · exfalso
              rcases hm with ⟨_, q, _⟩ | ⟨_, _, q⟩
              · exact k0 q
              · rcases q with q | q | q | q
                · exact k1 q
                · exact q (by rw [e3]; exact k2)
                · exact k3 q
                · exact q (Int32.not_lt.mp k4)
            · simp only [if_neg k3, if_neg k4, if_neg k0, if_neg k1, if_neg k2, and_self]
  have eM : r_armM_87 σ a1 a2 m u s = 0 ∧ t_armM_87 σ a1 a2 m u s = σ := by
    unfold r_armM_87 t_armM_87
    by_cases k0 : gI σ 66 35 = 0
    · simp only [if_pos k0, and_self]
    · by_cases k1 : a1 < 0
      · simp only [if_neg k0, if_pos k1, and_self]
      · by_cases k2 : nI u < a1
        · simp only [if_neg k0, if_neg k1, if_pos k2, and_self]
        · by_cases k3 : a2 < 1
          · simp only [if_neg k0, if_neg k1, if_neg k2, if_pos k3, and_self]
          · by_cases k4 : a2 ≤ 1000
            · exfalso
              rcases hm with ⟨q, _⟩ | ⟨_, _, q⟩
              · exact k0 q
              · rcases q with q | q | q | q
                · exact k1 q
                · exact q (by rw [e3]; exact Int32.not_lt.mp k2)
                · exact k3 q
                · exact q k4
            · simp only [if_neg k0, if_neg k1, if_neg k2, if_neg k3, if_neg k4, and_self]
  exact ⟨Cx_to (w_arm_30 d σ a1 a2 m u s H.rf r1 x1 e3 x2 hm1 (by omega) hs1 (fun k hk => fits8 (hb k hk)) (fun k hk => fits8 (bS k hk))) eR.1 eR.2, Cx_to (w_armM_87 d σ a1 a2 m u s H.rf r3 x3 e4 x4 hm1 (by omega) hs1) eM.1 eM.2⟩
theorem arm_both_30_95 {PX : PXt} {CK : CKt} {j : Nat} (hj : j < 64) {σ : Hp} (H : Inv PX CK j σ) (r1 : gR σ 0 9 = some 30) (r3 : gR σ 66 34 = some 95) (h : gI σ 66 35 = 1) (hm : PMat 30 95 σ) (a1 a2 : Int32) (k1 : ¬ a1 < 0) (k2 : a1 ≤ gI σ 0 3) (k3 : ¬ a2 < 1) (k4 : a2 ≤ 1000) (d : Nat) :
    ∃ m u s : Nat, (m ≤ 61440 ∧ u ≤ 1280 ∧ s ≤ 128 ∧ gI σ 0 3 = nI u ∧ gI σ 30 12 = nI m ∧ gI σ 30 11 = nI s) ∧ Cx yX11_arm cX11_arm 4 (some .boolean) (d + 3) 122 122 [.ref 0, .int a1, .int a2] σ (fun o τ => o = .inl (some (.int 1)) ∧ τ = armC 35 σ a1 a2 m u s) ∧ Cx yX14_arm cX14_arm 4 (some .boolean) (d + 1) 122 122 [.ref 66, .int a1, .int a2] (armC 35 σ a1 a2 m u s) (fun o τ => o = .inl (some (.int 1)) ∧ τ = armM 100 101 (armC 35 σ a1 a2 m u s) a1 a2 m u s) ∧ Inv PX CK (j + 1) (armM 100 101 (armC 35 σ a1 a2 m u s) a1 a2 m u s) := by
  obtain ⟨u, hu, e3, e4, eS, bS⟩ := H.subj
  obtain ⟨R, n, s, m, yb, ⟨y1, y2⟩, _, _, ⟨y6, y7⟩, ⟨y8, y9⟩, _, ysets, yimg, _⟩ := hm
  obtain ⟨P, P', Q, Q', hP, hQ, z1, z2, z3, z4, hb, hm2⟩ := H.prog
  obtain ⟨⟨m0, hm0, e5, e6, _⟩, p2, hr, hf, hg, he, hs, hd, hd2⟩ := H.proc
  have hR0 : ¬ gI σ 30 8 = 0 := by
    rw [y1]; intro z
    have := (cEq (a := R) (b := 0) rfl rfl (by omega) (by omega)).mp z
    omega
  have k4' : ¬ 1000 < a2 := Int32.not_lt.mpr k4
  have k2n : a1 ≤ nI u := by rw [← e3]; exact k2
  have c1 := Cx_to (w_arm_30 d σ a1 a2 m u s H.rf r1 y8 e3 y6 yb.2.2.2.2 (by omega) yb.2.2.2.1 (fun k hk => fits8 (hb k hk)) (fun k hk => fits8 (bS k hk))) (show r_arm_30 σ a1 a2 m u s = 1 by rw [r_arm_30, if_neg k3, if_neg k4', if_neg hR0, if_neg k1, if_pos k2n]) (show t_arm_30 σ a1 a2 m u s = armC 35 σ a1 a2 m u s by rw [t_arm_30, if_neg k3, if_neg k4', if_neg hR0, if_neg k1, if_pos k2n, armC_30 _ _ _ _ _ _ yb.2.2.2.2])
  have hRt : Rf (armC 35 σ a1 a2 m u s) := Rf_pI (Rf_pI (Rf_pI (Rf_pI (Rf_pI (Rf_pI (Rf_rA (Rf_rA (Rf_rA H.rf))))))))
  have h0 : ¬ gI (armC 35 σ a1 a2 m u s) 66 35 = 0 := by
    show ¬ gI σ 66 35 = 0
    rw [h]; decide
  have k2' : ¬ nI u < a1 := by rw [← e3]; exact Int32.not_lt.mpr k2
  have c2 := Cx_to (w_armM_95 d (armC 35 σ a1 a2 m u s) a1 a2 m u s hRt r3 y9 e4 y7 yb.2.2.2.2 (by omega) yb.2.2.2.1) (show r_armM_95 (armC 35 σ a1 a2 m u s) a1 a2 m u s = 1 by rw [r_armM_95, if_neg h0, if_neg k1, if_neg k2', if_neg k3, if_pos k4]) (armM_95 _ a1 a2 m u s h0 k1 k2' k3 k4)
  refine ⟨m, u, s, ⟨yb.2.2.2.2, by omega, yb.2.2.2.1, e3, y8, y6⟩, c1, c2, ?_⟩
  refine ⟨Rf_pI (Rf_pI (Rf_pI (Rf_pI (Rf_rA (Rf_rA (Rf_rA hRt)))))), H.tape.up, H.subj.up, H.flt, H.prog.keep (keep_pI (keep_pI (keep_pI (keep_pI (keep_rA (keep_rA (keep_rA (keep_pI (keep_pI (keep_pI (keep_pI (keep_pI (keep_pI (keep_rA (keep_rA (keep_rA (keep_0 σ) rfl) rfl) rfl) rfl) rfl) rfl) rfl) rfl) rfl) rfl) rfl) rfl) rfl) rfl) rfl) rfl) rfl rfl, ⟨⟨m, yb.2.2.2.2, rfl, rfl, ?_⟩, ?_, ?_, rfl, (show (0 : Int32) &&& 2261 = 0 by decide), rfl, rfl, ?_, ?_⟩, Or.inl rfl, H.out, H.own⟩
  · intro k hk
    show va_cpy (gA σ 45) (gA σ 53) 0 0 m k = (if k < m then (gA σ 101 k).toInt8.toInt32 else _)
    rw [pk_cpy_in (Nat.zero_le k) (by omega), if_pos hk, show 0 + (k - 0) = k from by omega]
    have yy := yimg k hk
    simp only [Nat.reduceAdd] at yy
    rw [← yy.1, yy.2]
  · intro k hk
    show (va_cpy (gA σ 45) (gA σ 53) 0 0 m k).toInt8.toInt32 = va_cpy (gA σ 45) (gA σ 53) 0 0 m k
    by_cases h : k < m
    · rw [pk_cpy_in (Nat.zero_le k) (by omega), show 0 + (k - 0) = k from by omega]; exact hb k hk
    · rw [pk_cpy_out (Or.inr (by omega))]; exact p2 k hk
  · intro k hk
    exact armR_eq hk
  · intro k hk
    exact armD_eq hk (by omega) yb.2.2.2.1 eS bS ysets
  · intro k hk
    exact armD_B hk bS (by omega)
theorem arm_no_30_95 {PX : PXt} {CK : CKt} {j : Nat} (hj : j < 64) {σ : Hp} (H : Inv PX CK j σ) (r1 : gR σ 0 9 = some 30) (r3 : gR σ 66 34 = some 95) (a1 a2 : Int32) (hm : (gI σ 66 35 = 0 ∧ gI σ 30 8 = 0 ∧ gI σ 30 9 = 0 ∧ gI σ 30 10 = 0 ∧ gI σ 30 11 = 0 ∧ gI σ 30 12 = 0 ∧ gI σ 95 0 = 0 ∧ gI σ 95 2 = 0 ∧ gI σ 95 3 = 0 ∧ gI σ 95 4 = 0) ∨ (gI σ 66 35 = 1 ∧ PMat 30 95 σ ∧ (a1 < 0 ∨ ¬ a1 ≤ gI σ 0 3 ∨ a2 < 1 ∨ ¬ a2 ≤ 1000))) (d : Nat) :
    Cx yX11_arm cX11_arm 4 (some .boolean) (d + 3) 122 122 [.ref 0, .int a1, .int a2] σ (fun o τ => o = .inl (some (.int 0)) ∧ τ = σ) ∧ Cx yX14_arm cX14_arm 4 (some .boolean) (d + 1) 122 122 [.ref 66, .int a1, .int a2] σ (fun o τ => o = .inl (some (.int 0)) ∧ τ = σ) := by
  obtain ⟨u, hu, e3, e4, eS, bS⟩ := H.subj
  obtain ⟨P, P', Q, Q', hP, hQ, z1, z2, z3, z4, hb, hm2⟩ := H.prog
  obtain ⟨m, s, hm1, hs1, x1, x2, x3, x4⟩ : ∃ m s : Nat, m ≤ 61440 ∧ s ≤ 128 ∧ gI σ 30 12 = nI m ∧ gI σ 30 11 = nI s ∧ gI σ 95 4 = nI m ∧ gI σ 95 3 = nI s := by
    rcases hm with ⟨_, _, _, _, q1, q2, _, _, q3, q4⟩ | ⟨_, ⟨R, n, s, m, yb, _, _, _, ⟨y6, y7⟩, ⟨y8, y9⟩, _⟩, _⟩
    · exact ⟨0, 0, by omega, by omega, q2, q1, q4, q3⟩
    · exact ⟨m, s, yb.2.2.2.2, yb.2.2.2.1, y8, y6, y9, y7⟩
  have eR : r_arm_30 σ a1 a2 m u s = 0 ∧ t_arm_30 σ a1 a2 m u s = σ := by
    unfold r_arm_30 t_arm_30
    by_cases k3 : a2 < 1
    · simp only [if_pos k3, and_self]
    · by_cases k4 : 1000 < a2
      · simp only [if_neg k3, if_pos k4, and_self]
      · by_cases k0 : gI σ 30 8 = 0
        · simp only [if_neg k3, if_neg k4, if_pos k0, and_self]
        · by_cases k1 : a1 < 0
          · simp only [if_neg k3, if_neg k4, if_neg k0, if_pos k1, and_self]
          · by_cases k2 : a1 ≤ nI u
            · exfalso
              rcases hm with ⟨_, q, _⟩ | ⟨_, _, q⟩
              · exact k0 q
              · rcases q with q | q | q | q
                · exact k1 q
                · exact q (by rw [e3]; exact k2)
                · exact k3 q
                · exact q (Int32.not_lt.mp k4)
            · simp only [if_neg k3, if_neg k4, if_neg k0, if_neg k1, if_neg k2, and_self]
  have eM : r_armM_95 σ a1 a2 m u s = 0 ∧ t_armM_95 σ a1 a2 m u s = σ := by
    unfold r_armM_95 t_armM_95
    by_cases k0 : gI σ 66 35 = 0
    · simp only [if_pos k0, and_self]
    · by_cases k1 : a1 < 0
      · simp only [if_neg k0, if_pos k1, and_self]
      · by_cases k2 : nI u < a1
        · simp only [if_neg k0, if_neg k1, if_pos k2, and_self]
        · by_cases k3 : a2 < 1
          · simp only [if_neg k0, if_neg k1, if_neg k2, if_pos k3, and_self]
          · by_cases k4 : a2 ≤ 1000
            · exfalso
              rcases hm with ⟨q, _⟩ | ⟨_, _, q⟩
              · exact k0 q
              · rcases q with q | q | q | q
                · exact k1 q
                · exact q (by rw [e3]; exact Int32.not_lt.mp k2)
                · exact k3 q
                · exact q k4
            · simp only [if_neg k0, if_neg k1, if_neg k2, if_neg k3, if_neg k4, and_self]
  exact ⟨Cx_to (w_arm_30 d σ a1 a2 m u s H.rf r1 x1 e3 x2 hm1 (by omega) hs1 (fun k hk => fits8 (hb k hk)) (fun k hk => fits8 (bS k hk))) eR.1 eR.2, Cx_to (w_armM_95 d σ a1 a2 m u s H.rf r3 x3 e4 x4 hm1 (by omega) hs1) eM.1 eM.2⟩
theorem ob10 {PX : PXt} {CK : CKt} {j : Nat} (hj : j < 64) {σ : Hp} (H : Inv PX CK j σ) : Ob10 (Inv PX CK (j + 1)) σ := by
  intro a1 a2
  obtain ⟨P, P', Q, Q', hP, hQ, r1, r2, r3, r4, hb, hm⟩ := H.prog
  rcases hP with ⟨rfl, rfl⟩ | ⟨rfl, rfl⟩
  · rcases hQ with ⟨rfl, rfl⟩ | ⟨rfl, rfl⟩
    · rcases hm with hz | ⟨h, hm, hx⟩
      · obtain ⟨c1, c2⟩ := arm_no_21_87 hj H r1 r3 a1 a2 (Or.inl hz) 897
        obtain ⟨c3, c4⟩ := arm_no_21_87 hj H r1 r3 a1 a2 (Or.inl hz) 899
        exact ⟨0, σ, σ, c1, c4, H.up⟩
      · by_cases kk : a1 < 0 ∨ ¬ a1 ≤ gI σ 0 3 ∨ a2 < 1 ∨ ¬ a2 ≤ 1000
        · obtain ⟨c1, c2⟩ := arm_no_21_87 hj H r1 r3 a1 a2 (Or.inr ⟨h, hm, kk⟩) 897
          obtain ⟨c3, c4⟩ := arm_no_21_87 hj H r1 r3 a1 a2 (Or.inr ⟨h, hm, kk⟩) 899
          exact ⟨0, σ, σ, c1, c4, H.up⟩
        · have q1 : ¬ a1 < 0 := fun q => kk (Or.inl q)
          have q2 : a1 ≤ gI σ 0 3 := Classical.not_not.mp (fun q => kk (Or.inr (Or.inl q)))
          have q3 : ¬ a2 < 1 := fun q => kk (Or.inr (Or.inr (Or.inl q)))
          have q4 : a2 ≤ 1000 := Classical.not_not.mp (fun q => kk (Or.inr (Or.inr (Or.inr q))))
          obtain ⟨m, u, s, _, c1, _, hI⟩ := arm_both_21_87 hj H r1 r3 h hm a1 a2 q1 q2 q3 q4 897
          obtain ⟨m', u', s', ⟨b1, b2, b3, b4, b5, b6⟩, _, c2, hI'⟩ := arm_both_21_87 hj H r1 r3 h hm a1 a2 q1 q2 q3 q4 899
          obtain ⟨m2, u2, s2, ⟨d1, d2, d3, d4, d5, d6⟩, c1', _, _⟩ := arm_both_21_87 hj H r1 r3 h hm a1 a2 q1 q2 q3 q4 897
          have f1 : m' = m2 := (nI_eq (by omega) (by omega)).mp (b5.symm.trans d5)
          have f2 : u' = u2 := (nI_eq (by omega) (by omega)).mp (b4.symm.trans d4)
          have f3 : s' = s2 := (nI_eq (by omega) (by omega)).mp (b6.symm.trans d6)
          subst f1 f2 f3
          exact ⟨1, _, _, c1', c2, hI'⟩
    · rcases hm with hz | ⟨h, hm, hx⟩
      · obtain ⟨c1, c2⟩ := arm_no_21_95 hj H r1 r3 a1 a2 (Or.inl hz) 897
        obtain ⟨c3, c4⟩ := arm_no_21_95 hj H r1 r3 a1 a2 (Or.inl hz) 899
        exact ⟨0, σ, σ, c1, c4, H.up⟩
      · by_cases kk : a1 < 0 ∨ ¬ a1 ≤ gI σ 0 3 ∨ a2 < 1 ∨ ¬ a2 ≤ 1000
        · obtain ⟨c1, c2⟩ := arm_no_21_95 hj H r1 r3 a1 a2 (Or.inr ⟨h, hm, kk⟩) 897
          obtain ⟨c3, c4⟩ := arm_no_21_95 hj H r1 r3 a1 a2 (Or.inr ⟨h, hm, kk⟩) 899
          exact ⟨0, σ, σ, c1, c4, H.up⟩
        · have q1 : ¬ a1 < 0 := fun q => kk (Or.inl q)
          have q2 : a1 ≤ gI σ 0 3 := Classical.not_not.mp (fun q => kk (Or.inr (Or.inl q)))
          have q3 : ¬ a2 < 1 := fun q => kk (Or.inr (Or.inr (Or.inl q)))
          have q4 : a2 ≤ 1000 := Classical.not_not.mp (fun q => kk (Or.inr (Or.inr (Or.inr q))))
          obtain ⟨m, u, s, _, c1, _, hI⟩ := arm_both_21_95 hj H r1 r3 h hm a1 a2 q1 q2 q3 q4 897
          obtain ⟨m', u', s', ⟨b1, b2, b3, b4, b5, b6⟩, _, c2, hI'⟩ := arm_both_21_95 hj H r1 r3 h hm a1 a2 q1 q2 q3 q4 899
          obtain ⟨m2, u2, s2, ⟨d1, d2, d3, d4, d5, d6⟩, c1', _, _⟩ := arm_both_21_95 hj H r1 r3 h hm a1 a2 q1 q2 q3 q4 897
          have f1 : m' = m2 := (nI_eq (by omega) (by omega)).mp (b5.symm.trans d5)
          have f2 : u' = u2 := (nI_eq (by omega) (by omega)).mp (b4.symm.trans d4)
          have f3 : s' = s2 := (nI_eq (by omega) (by omega)).mp (b6.symm.trans d6)
          subst f1 f2 f3
          exact ⟨1, _, _, c1', c2, hI'⟩
  · rcases hQ with ⟨rfl, rfl⟩ | ⟨rfl, rfl⟩
    · rcases hm with hz | ⟨h, hm, hx⟩
      · obtain ⟨c1, c2⟩ := arm_no_30_87 hj H r1 r3 a1 a2 (Or.inl hz) 897
        obtain ⟨c3, c4⟩ := arm_no_30_87 hj H r1 r3 a1 a2 (Or.inl hz) 899
        exact ⟨0, σ, σ, c1, c4, H.up⟩
      · by_cases kk : a1 < 0 ∨ ¬ a1 ≤ gI σ 0 3 ∨ a2 < 1 ∨ ¬ a2 ≤ 1000
        · obtain ⟨c1, c2⟩ := arm_no_30_87 hj H r1 r3 a1 a2 (Or.inr ⟨h, hm, kk⟩) 897
          obtain ⟨c3, c4⟩ := arm_no_30_87 hj H r1 r3 a1 a2 (Or.inr ⟨h, hm, kk⟩) 899
          exact ⟨0, σ, σ, c1, c4, H.up⟩
        · have q1 : ¬ a1 < 0 := fun q => kk (Or.inl q)
          have q2 : a1 ≤ gI σ 0 3 := Classical.not_not.mp (fun q => kk (Or.inr (Or.inl q)))
          have q3 : ¬ a2 < 1 := fun q => kk (Or.inr (Or.inr (Or.inl q)))
          have q4 : a2 ≤ 1000 := Classical.not_not.mp (fun q => kk (Or.inr (Or.inr (Or.inr q))))
          obtain ⟨m, u, s, _, c1, _, hI⟩ := arm_both_30_87 hj H r1 r3 h hm a1 a2 q1 q2 q3 q4 897
          obtain ⟨m', u', s', ⟨b1, b2, b3, b4, b5, b6⟩, _, c2, hI'⟩ := arm_both_30_87 hj H r1 r3 h hm a1 a2 q1 q2 q3 q4 899
          obtain ⟨m2, u2, s2, ⟨d1, d2, d3, d4, d5, d6⟩, c1', _, _⟩ := arm_both_30_87 hj H r1 r3 h hm a1 a2 q1 q2 q3 q4 897
          have f1 : m' = m2 := (nI_eq (by omega) (by omega)).mp (b5.symm.trans d5)
          have f2 : u' = u2 := (nI_eq (by omega) (by omega)).mp (b4.symm.trans d4)
          have f3 : s' = s2 := (nI_eq (by omega) (by omega)).mp (b6.symm.trans d6)
          subst f1 f2 f3
          exact ⟨1, _, _, c1', c2, hI'⟩
    · rcases hm with hz | ⟨h, hm, hx⟩
      · obtain ⟨c1, c2⟩ := arm_no_30_95 hj H r1 r3 a1 a2 (Or.inl hz) 897
        obtain ⟨c3, c4⟩ := arm_no_30_95 hj H r1 r3 a1 a2 (Or.inl hz) 899
        exact ⟨0, σ, σ, c1, c4, H.up⟩
      · by_cases kk : a1 < 0 ∨ ¬ a1 ≤ gI σ 0 3 ∨ a2 < 1 ∨ ¬ a2 ≤ 1000
        · obtain ⟨c1, c2⟩ := arm_no_30_95 hj H r1 r3 a1 a2 (Or.inr ⟨h, hm, kk⟩) 897
          obtain ⟨c3, c4⟩ := arm_no_30_95 hj H r1 r3 a1 a2 (Or.inr ⟨h, hm, kk⟩) 899
          exact ⟨0, σ, σ, c1, c4, H.up⟩
        · have q1 : ¬ a1 < 0 := fun q => kk (Or.inl q)
          have q2 : a1 ≤ gI σ 0 3 := Classical.not_not.mp (fun q => kk (Or.inr (Or.inl q)))
          have q3 : ¬ a2 < 1 := fun q => kk (Or.inr (Or.inr (Or.inl q)))
          have q4 : a2 ≤ 1000 := Classical.not_not.mp (fun q => kk (Or.inr (Or.inr (Or.inr q))))
          obtain ⟨m, u, s, _, c1, _, hI⟩ := arm_both_30_95 hj H r1 r3 h hm a1 a2 q1 q2 q3 q4 897
          obtain ⟨m', u', s', ⟨b1, b2, b3, b4, b5, b6⟩, _, c2, hI'⟩ := arm_both_30_95 hj H r1 r3 h hm a1 a2 q1 q2 q3 q4 899
          obtain ⟨m2, u2, s2, ⟨d1, d2, d3, d4, d5, d6⟩, c1', _, _⟩ := arm_both_30_95 hj H r1 r3 h hm a1 a2 q1 q2 q3 q4 897
          have f1 : m' = m2 := (nI_eq (by omega) (by omega)).mp (b5.symm.trans d5)
          have f2 : u' = u2 := (nI_eq (by omega) (by omega)).mp (b4.symm.trans d4)
          have f3 : s' = s2 := (nI_eq (by omega) (by omega)).mp (b6.symm.trans d6)
          subst f1 f2 f3
          exact ⟨1, _, _, c1', c2, hI'⟩

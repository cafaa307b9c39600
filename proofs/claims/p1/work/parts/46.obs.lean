theorem ob1 {PX : PXt} {CK : CKt} {j : Nat} (hj : j < 64) {σ : Hp} (H : Inv PX CK j σ) : Ob1 (Inv PX CK (j + 1)) σ := by
  intro a1
  obtain ⟨t, ht, e1, e2, eA, bA⟩ := H.tape
  by_cases h1 : a1 < 0
  · exact ⟨-1, σ, σ, Cx_to (w_end 900 σ a1) (by rw [r_end, if_pos h1]) (by rw [t_end, if_pos h1]), Cx_to (w_endM 900 σ a1) (by rw [r_endM, if_pos h1]) (by rw [t_endM, if_pos h1]), H.up⟩
  · by_cases h2 : a1 ≤ gI σ 0 1
    · have h3 : a1 ≤ gI (pI σ 0 1 a1) 66 2 := by
        show a1 ≤ gI σ 66 2
        rw [e2, ← e1]; exact h2
      refine ⟨a1, pI σ 0 1 a1, pI (pI σ 0 1 a1) 66 2 a1, Cx_to (w_end 900 σ a1) (by rw [r_end, if_neg h1, if_pos h2]) (by rw [t_end, if_neg h1, if_pos h2]), Cx_to (w_endM 900 (pI σ 0 1 a1) a1) (by rw [r_endM, if_neg h1, if_pos h3]) (by rw [t_endM, if_neg h1, if_pos h3]), ?_⟩
      obtain ⟨n, hn, rfl⟩ := nI_of h1
      have hn2 : n ≤ t := by rw [e1] at h2; exact (cLe rfl rfl (by omega) (by omega)).mp h2
      exact ⟨H.rf, ⟨n, by omega, rfl, rfl, eA, bA⟩, H.subj.up, H.flt, H.prog.keep (keep_pI (keep_pI (keep_0 σ) rfl) rfl) rfl rfl, H.proc, H.chk, H.out, H.own⟩
    · have h3 : ¬ a1 ≤ gI σ 66 2 := by rw [e2, ← e1]; exact h2
      exact ⟨-1, σ, σ, Cx_to (w_end 900 σ a1) (by rw [r_end, if_neg h1, if_neg h2]) (by rw [t_end, if_neg h1, if_neg h2]), Cx_to (w_endM 900 σ a1) (by rw [r_endM, if_neg h1, if_neg h3]) (by rw [t_endM, if_neg h1, if_neg h3]), H.up⟩
theorem ob3 {PX : PXt} {CK : CKt} {j : Nat} (hj : j < 64) {σ : Hp} (H : Inv PX CK j σ) : Ob3 (Inv PX CK (j + 1)) σ := by
  intro a1
  refine ⟨r_fault σ a1, σ, σ, w_fault 900 σ a1, Cx_to (w_faultM 900 σ a1) ?_ rfl, H.up⟩
  unfold r_fault r_faultM
  rcases H.flt with ⟨h, h1, h2⟩ | ⟨h, h1, h2⟩
  · rw [if_neg (fun q => q h), h1, h2]
    simp
  · rw [if_pos (by rw [h]; decide), h1, h2]
theorem ob4 {PX : PXt} {CK : CKt} {j : Nat} (hj : j < 64) {σ : Hp} (H : Inv PX CK j σ) : Ob4 (Inv PX CK (j + 1)) σ := by
  intro a1
  obtain ⟨t, ht, e1, e2, _, _⟩ := H.tape
  obtain ⟨u, hu, e3, e4, _, _⟩ := H.subj
  obtain ⟨⟨m0, hm0, e5, e6, _⟩, _⟩ := H.proc
  have f1 : gI σ 0 1 = gI σ 66 2 := e1.trans e2.symm
  have f2 : gI σ 0 3 = gI σ 66 4 := e3.trans e4.symm
  have f3 : gI σ 50 3 = gI σ 66 50 := e5.trans e6.symm
  obtain ⟨P, P', Q, Q', hP, hQ, r1, r2, r3, r4, hb, hm⟩ := H.prog
  rcases hP with ⟨rfl, rfl⟩ | ⟨rfl, rfl⟩
  · rcases hQ with ⟨rfl, rfl⟩ | ⟨rfl, rfl⟩
    · refine ⟨r_count_21 σ a1, σ, σ, w_count_21 900 σ a1 H.rf r1, Cx_to (w_countM_87 900 σ a1 r3) ?_ rfl, H.up⟩
      unfold r_count_21 r_countM_87
      rw [f1, f2, f3]
      rcases hm with ⟨h, z8, z9, z10, z11, z12, z1, z2, z3, z4⟩ | ⟨h, ⟨R, n, s, m, _, ⟨y1, y2⟩, y3, ⟨y4, y5⟩, ⟨y6, y7⟩, ⟨y8, y9⟩, _⟩, _⟩
      · simp only [h, z8, z9, z10, z11, z12, if_true]
      · simp only [h, y1, y2, y3, y4, y5, y6, y7, y8, y9, if_neg (show ¬ (1 : Int32) = 0 by decide)]
    · refine ⟨r_count_21 σ a1, σ, σ, w_count_21 900 σ a1 H.rf r1, Cx_to (w_countM_95 900 σ a1 r3) ?_ rfl, H.up⟩
      unfold r_count_21 r_countM_95
      rw [f1, f2, f3]
      rcases hm with ⟨h, z8, z9, z10, z11, z12, z1, z2, z3, z4⟩ | ⟨h, ⟨R, n, s, m, _, ⟨y1, y2⟩, y3, ⟨y4, y5⟩, ⟨y6, y7⟩, ⟨y8, y9⟩, _⟩, _⟩
      · simp only [h, z8, z9, z10, z11, z12, if_true]
      · simp only [h, y1, y2, y3, y4, y5, y6, y7, y8, y9, if_neg (show ¬ (1 : Int32) = 0 by decide)]
  · rcases hQ with ⟨rfl, rfl⟩ | ⟨rfl, rfl⟩
    · refine ⟨r_count_30 σ a1, σ, σ, w_count_30 900 σ a1 H.rf r1, Cx_to (w_countM_87 900 σ a1 r3) ?_ rfl, H.up⟩
      unfold r_count_30 r_countM_87
      rw [f1, f2, f3]
      rcases hm with ⟨h, z8, z9, z10, z11, z12, z1, z2, z3, z4⟩ | ⟨h, ⟨R, n, s, m, _, ⟨y1, y2⟩, y3, ⟨y4, y5⟩, ⟨y6, y7⟩, ⟨y8, y9⟩, _⟩, _⟩
      · simp only [h, z8, z9, z10, z11, z12, if_true]
      · simp only [h, y1, y2, y3, y4, y5, y6, y7, y8, y9, if_neg (show ¬ (1 : Int32) = 0 by decide)]
    · refine ⟨r_count_30 σ a1, σ, σ, w_count_30 900 σ a1 H.rf r1, Cx_to (w_countM_95 900 σ a1 r3) ?_ rfl, H.up⟩
      unfold r_count_30 r_countM_95
      rw [f1, f2, f3]
      rcases hm with ⟨h, z8, z9, z10, z11, z12, z1, z2, z3, z4⟩ | ⟨h, ⟨R, n, s, m, _, ⟨y1, y2⟩, y3, ⟨y4, y5⟩, ⟨y6, y7⟩, ⟨y8, y9⟩, _⟩, _⟩
      · simp only [h, z8, z9, z10, z11, z12, if_true]
      · simp only [h, y1, y2, y3, y4, y5, y6, y7, y8, y9, if_neg (show ¬ (1 : Int32) = 0 by decide)]
theorem ob5 {PX : PXt} {CK : CKt} {j : Nat} (hj : j < 64) {σ : Hp} (H : Inv PX CK j σ) : Ob5 (Inv PX CK (j + 1)) σ := by
  intro a1 a2
  obtain ⟨P, P', Q, Q', hP, hQ, r1, r2, r3, r4, hb, hm⟩ := H.prog
  rcases hP with ⟨rfl, rfl⟩ | ⟨rfl, rfl⟩
  · rcases hQ with ⟨rfl, rfl⟩ | ⟨rfl, rfl⟩
    · have hb1 : (gI σ 21 8).toInt ≤ (60 : Nat) := by
        rcases hm with ⟨_, z8, _⟩ | ⟨_, ⟨R, n, s, m, yb, ⟨y1, y2⟩, _⟩, _⟩
        · rw [z8]; decide
        · rw [y1]; exact nI_le32 yb.2.1 (by decide)
      rcases hm with ⟨h, z8, z9, z10, z11, z12, z1, z2, z3, z4⟩ | ⟨h, ⟨R, n, s, m, yb, ⟨y1, y2⟩, _, _, _, _, _, _, _, yr⟩, _⟩
      · have e1 : r_rule_21 σ a1 a2 = -1 := by
          unfold r_rule_21
          by_cases k0 : a1 < 0
          · rw [if_pos k0]
          · rw [if_neg k0, if_pos (by rw [z8]; exact Int32.not_lt.mp k0)]
        exact ⟨-1, σ, σ, Cx_to (w_rule_21 900 σ a1 a2 H.rf r1 hb1) e1 rfl, Cx_to (w_ruleM_87 900 σ a1 a2 H.rf r3 (by rw [z1]; decide)) (by rw [r_ruleM_87, if_pos h]) rfl, H.up⟩
      · have hb2 : (gI σ 87 0).toInt ≤ (60 : Nat) := by rw [y2, ← y1]; exact hb1
        refine ⟨r_rule_21 σ a1 a2, σ, σ, w_rule_21 900 σ a1 a2 H.rf r1 hb1, Cx_to (w_ruleM_87 900 σ a1 a2 H.rf r3 hb2) ?_ rfl, H.up⟩
        unfold r_rule_21 r_ruleM_87
        rw [y1, y2, h, if_neg (show ¬ (1 : Int32) = 0 by decide)]
        by_cases k0 : a1 < 0
        · rw [if_pos k0, if_pos k0]
        · rw [if_neg k0, if_neg k0]
          by_cases k1 : nI R ≤ a1
          · rw [if_pos k1, if_pos k1]
          · rw [if_neg k1, if_neg k1]
            by_cases k2 : a2 < 0
            · rw [if_pos k2, if_pos k2]
            · rw [if_neg k2, if_neg k2]
              by_cases k3 : a2 ≤ 11
              · rw [if_pos k3, if_pos k3]
                obtain ⟨k, hk, rfl⟩ := nI_of k0
                obtain ⟨w, hw, rfl⟩ := nI_of k2
                have hw11 : w ≤ 11 := (cLe (a := w) (b := 11) rfl rfl (by omega) (by omega)).mp k3
                have hkR : k < R := Nat.lt_of_not_le (fun q => k1 ((cLe rfl rfl (by omega) (by omega)).mpr q))
                obtain ⟨q1, q2, q3⟩ := yr k hkR
                have x1 : ((12 * nI k + nI w : Int32)).toNatClampNeg = 12 * k + w := by
                  rw [show (12 * nI k + nI w : Int32) = nI (12 * k + w) from addN (mulN rfl rfl) rfl]
                  exact nI_clamp (by omega)
                rw [x1, nI_clamp (n := k) (by omega)]
                by_cases k4 : (3 : Int32) ≤ nI w
                · have h3 : 3 ≤ w := (cLe (a := 3) (b := w) rfl rfl (by omega) (by omega)).mp k4
                  rw [if_pos k4]
                  by_cases k5 : ¬ nI w = 3
                  · have h4 : w ≠ 3 := fun q => k5 (by rw [q]; rfl)
                    rw [if_pos k5]
                    have x2 : ((8 * nI k + nI w - 4 : Int32)).toNatClampNeg = 8 * k + (w - 4) := by
                      rw [show (8 * nI k + nI w - 4 : Int32) = nI (8 * k + (w - 4)) from subE (a := 8 * k + w) (b := 4) (addN (mulN rfl rfl) rfl) rfl (by omega)]
                      exact nI_clamp (by omega)
                    rw [x2, q3 (w - 4) (by omega)]
                    congr 1
                    omega
                  · rw [if_neg k5]
                    have h4 : w = 3 := (cEq (a := w) (b := 3) rfl rfl (by omega) (by omega)).mp (Classical.not_not.mp k5)
                    subst h4
                    exact q2.symm
                · rw [if_neg k4]
                  have h3 : w < 3 := Nat.lt_of_not_le (fun q => k4 ((cLe (a := 3) (b := w) rfl rfl (by omega) (by omega)).mpr q))
                  exact (q1 w h3).symm
              · rw [if_neg k3, if_neg k3]
    · have hb1 : (gI σ 21 8).toInt ≤ (60 : Nat) := by
        rcases hm with ⟨_, z8, _⟩ | ⟨_, ⟨R, n, s, m, yb, ⟨y1, y2⟩, _⟩, _⟩
        · rw [z8]; decide
        · rw [y1]; exact nI_le32 yb.2.1 (by decide)
      rcases hm with ⟨h, z8, z9, z10, z11, z12, z1, z2, z3, z4⟩ | ⟨h, ⟨R, n, s, m, yb, ⟨y1, y2⟩, _, _, _, _, _, _, _, yr⟩, _⟩
      · have e1 : r_rule_21 σ a1 a2 = -1 := by
          unfold r_rule_21
          by_cases k0 : a1 < 0
          · rw [if_pos k0]
          · rw [if_neg k0, if_pos (by rw [z8]; exact Int32.not_lt.mp k0)]
        exact ⟨-1, σ, σ, Cx_to (w_rule_21 900 σ a1 a2 H.rf r1 hb1) e1 rfl, Cx_to (w_ruleM_95 900 σ a1 a2 H.rf r3 (by rw [z1]; decide)) (by rw [r_ruleM_95, if_pos h]) rfl, H.up⟩
      · have hb2 : (gI σ 95 0).toInt ≤ (60 : Nat) := by rw [y2, ← y1]; exact hb1
        refine ⟨r_rule_21 σ a1 a2, σ, σ, w_rule_21 900 σ a1 a2 H.rf r1 hb1, Cx_to (w_ruleM_95 900 σ a1 a2 H.rf r3 hb2) ?_ rfl, H.up⟩
        unfold r_rule_21 r_ruleM_95
        rw [y1, y2, h, if_neg (show ¬ (1 : Int32) = 0 by decide)]
        by_cases k0 : a1 < 0
        · rw [if_pos k0, if_pos k0]
        · rw [if_neg k0, if_neg k0]
          by_cases k1 : nI R ≤ a1
          · rw [if_pos k1, if_pos k1]
          · rw [if_neg k1, if_neg k1]
            by_cases k2 : a2 < 0
            · rw [if_pos k2, if_pos k2]
            · rw [if_neg k2, if_neg k2]
              by_cases k3 : a2 ≤ 11
              · rw [if_pos k3, if_pos k3]
                obtain ⟨k, hk, rfl⟩ := nI_of k0
                obtain ⟨w, hw, rfl⟩ := nI_of k2
                have hw11 : w ≤ 11 := (cLe (a := w) (b := 11) rfl rfl (by omega) (by omega)).mp k3
                have hkR : k < R := Nat.lt_of_not_le (fun q => k1 ((cLe rfl rfl (by omega) (by omega)).mpr q))
                obtain ⟨q1, q2, q3⟩ := yr k hkR
                have x1 : ((12 * nI k + nI w : Int32)).toNatClampNeg = 12 * k + w := by
                  rw [show (12 * nI k + nI w : Int32) = nI (12 * k + w) from addN (mulN rfl rfl) rfl]
                  exact nI_clamp (by omega)
                rw [x1, nI_clamp (n := k) (by omega)]
                by_cases k4 : (3 : Int32) ≤ nI w
                · have h3 : 3 ≤ w := (cLe (a := 3) (b := w) rfl rfl (by omega) (by omega)).mp k4
                  rw [if_pos k4]
                  by_cases k5 : ¬ nI w = 3
                  · have h4 : w ≠ 3 := fun q => k5 (by rw [q]; rfl)
                    rw [if_pos k5]
                    have x2 : ((8 * nI k + nI w - 4 : Int32)).toNatClampNeg = 8 * k + (w - 4) := by
                      rw [show (8 * nI k + nI w - 4 : Int32) = nI (8 * k + (w - 4)) from subE (a := 8 * k + w) (b := 4) (addN (mulN rfl rfl) rfl) rfl (by omega)]
                      exact nI_clamp (by omega)
                    rw [x2, q3 (w - 4) (by omega)]
                    congr 1
                    omega
                  · rw [if_neg k5]
                    have h4 : w = 3 := (cEq (a := w) (b := 3) rfl rfl (by omega) (by omega)).mp (Classical.not_not.mp k5)
                    subst h4
                    exact q2.symm
                · rw [if_neg k4]
                  have h3 : w < 3 := Nat.lt_of_not_le (fun q => k4 ((cLe (a := 3) (b := w) rfl rfl (by omega) (by omega)).mpr q))
                  exact (q1 w h3).symm
              · rw [if_neg k3, if_neg k3]
  · rcases hQ with ⟨rfl, rfl⟩ | ⟨rfl, rfl⟩
    · have hb1 : (gI σ 30 8).toInt ≤ (60 : Nat) := by
        rcases hm with ⟨_, z8, _⟩ | ⟨_, ⟨R, n, s, m, yb, ⟨y1, y2⟩, _⟩, _⟩
        · rw [z8]; decide
        · rw [y1]; exact nI_le32 yb.2.1 (by decide)
      rcases hm with ⟨h, z8, z9, z10, z11, z12, z1, z2, z3, z4⟩ | ⟨h, ⟨R, n, s, m, yb, ⟨y1, y2⟩, _, _, _, _, _, _, _, yr⟩, _⟩
      · have e1 : r_rule_30 σ a1 a2 = -1 := by
          unfold r_rule_30
          by_cases k0 : a1 < 0
          · rw [if_pos k0]
          · rw [if_neg k0, if_pos (by rw [z8]; exact Int32.not_lt.mp k0)]
        exact ⟨-1, σ, σ, Cx_to (w_rule_30 900 σ a1 a2 H.rf r1 hb1) e1 rfl, Cx_to (w_ruleM_87 900 σ a1 a2 H.rf r3 (by rw [z1]; decide)) (by rw [r_ruleM_87, if_pos h]) rfl, H.up⟩
      · have hb2 : (gI σ 87 0).toInt ≤ (60 : Nat) := by rw [y2, ← y1]; exact hb1
        refine ⟨r_rule_30 σ a1 a2, σ, σ, w_rule_30 900 σ a1 a2 H.rf r1 hb1, Cx_to (w_ruleM_87 900 σ a1 a2 H.rf r3 hb2) ?_ rfl, H.up⟩
        unfold r_rule_30 r_ruleM_87
        rw [y1, y2, h, if_neg (show ¬ (1 : Int32) = 0 by decide)]
        by_cases k0 : a1 < 0
        · rw [if_pos k0, if_pos k0]
        · rw [if_neg k0, if_neg k0]
          by_cases k1 : nI R ≤ a1
          · rw [if_pos k1, if_pos k1]
          · rw [if_neg k1, if_neg k1]
            by_cases k2 : a2 < 0
            · rw [if_pos k2, if_pos k2]
            · rw [if_neg k2, if_neg k2]
              by_cases k3 : a2 ≤ 11
              · rw [if_pos k3, if_pos k3]
                obtain ⟨k, hk, rfl⟩ := nI_of k0
                obtain ⟨w, hw, rfl⟩ := nI_of k2
                have hw11 : w ≤ 11 := (cLe (a := w) (b := 11) rfl rfl (by omega) (by omega)).mp k3
                have hkR : k < R := Nat.lt_of_not_le (fun q => k1 ((cLe rfl rfl (by omega) (by omega)).mpr q))
                obtain ⟨q1, q2, q3⟩ := yr k hkR
                have x1 : ((12 * nI k + nI w : Int32)).toNatClampNeg = 12 * k + w := by
                  rw [show (12 * nI k + nI w : Int32) = nI (12 * k + w) from addN (mulN rfl rfl) rfl]
                  exact nI_clamp (by omega)
                rw [x1, nI_clamp (n := k) (by omega)]
                by_cases k4 : (3 : Int32) ≤ nI w
                · have h3 : 3 ≤ w := (cLe (a := 3) (b := w) rfl rfl (by omega) (by omega)).mp k4
                  rw [if_pos k4]
                  by_cases k5 : ¬ nI w = 3
                  · have h4 : w ≠ 3 := fun q => k5 (by rw [q]; rfl)
                    rw [if_pos k5]
                    have x2 : ((8 * nI k + nI w - 4 : Int32)).toNatClampNeg = 8 * k + (w - 4) := by
                      rw [show (8 * nI k + nI w - 4 : Int32) = nI (8 * k + (w - 4)) from subE (a := 8 * k + w) (b := 4) (addN (mulN rfl rfl) rfl) rfl (by omega)]
                      exact nI_clamp (by omega)
                    rw [x2, q3 (w - 4) (by omega)]
                    congr 1
                    omega
                  · rw [if_neg k5]
                    have h4 : w = 3 := (cEq (a := w) (b := 3) rfl rfl (by omega) (by omega)).mp (Classical.not_not.mp k5)
                    subst h4
                    exact q2.symm
                · rw [if_neg k4]
                  have h3 : w < 3 := Nat.lt_of_not_le (fun q => k4 ((cLe (a := 3) (b := w) rfl rfl (by omega) (by omega)).mpr q))
                  exact (q1 w h3).symm
              · rw [if_neg k3, if_neg k3]
    · have hb1 : (gI σ 30 8).toInt ≤ (60 : Nat) := by
        rcases hm with ⟨_, z8, _⟩ | ⟨_, ⟨R, n, s, m, yb, ⟨y1, y2⟩, _⟩, _⟩
        · rw [z8]; decide
        · rw [y1]; exact nI_le32 yb.2.1 (by decide)
      rcases hm with ⟨h, z8, z9, z10, z11, z12, z1, z2, z3, z4⟩ | ⟨h, ⟨R, n, s, m, yb, ⟨y1, y2⟩, _, _, _, _, _, _, _, yr⟩, _⟩
      · have e1 : r_rule_30 σ a1 a2 = -1 := by
          unfold r_rule_30
          by_cases k0 : a1 < 0
          · rw [if_pos k0]
          · rw [if_neg k0, if_pos (by rw [z8]; exact Int32.not_lt.mp k0)]
        exact ⟨-1, σ, σ, Cx_to (w_rule_30 900 σ a1 a2 H.rf r1 hb1) e1 rfl, Cx_to (w_ruleM_95 900 σ a1 a2 H.rf r3 (by rw [z1]; decide)) (by rw [r_ruleM_95, if_pos h]) rfl, H.up⟩
      · have hb2 : (gI σ 95 0).toInt ≤ (60 : Nat) := by rw [y2, ← y1]; exact hb1
        refine ⟨r_rule_30 σ a1 a2, σ, σ, w_rule_30 900 σ a1 a2 H.rf r1 hb1, Cx_to (w_ruleM_95 900 σ a1 a2 H.rf r3 hb2) ?_ rfl, H.up⟩
        unfold r_rule_30 r_ruleM_95
        rw [y1, y2, h, if_neg (show ¬ (1 : Int32) = 0 by decide)]
        by_cases k0 : a1 < 0
        · rw [if_pos k0, if_pos k0]
        · rw [if_neg k0, if_neg k0]
          by_cases k1 : nI R ≤ a1
          · rw [if_pos k1, if_pos k1]
          · rw [if_neg k1, if_neg k1]
            by_cases k2 : a2 < 0
            · rw [if_pos k2, if_pos k2]
            · rw [if_neg k2, if_neg k2]
              by_cases k3 : a2 ≤ 11
              · rw [if_pos k3, if_pos k3]
                obtain ⟨k, hk, rfl⟩ := nI_of k0
                obtain ⟨w, hw, rfl⟩ := nI_of k2
                have hw11 : w ≤ 11 := (cLe (a := w) (b := 11) rfl rfl (by omega) (by omega)).mp k3
                have hkR : k < R := Nat.lt_of_not_le (fun q => k1 ((cLe rfl rfl (by omega) (by omega)).mpr q))
                obtain ⟨q1, q2, q3⟩ := yr k hkR
                have x1 : ((12 * nI k + nI w : Int32)).toNatClampNeg = 12 * k + w := by
                  rw [show (12 * nI k + nI w : Int32) = nI (12 * k + w) from addN (mulN rfl rfl) rfl]
                  exact nI_clamp (by omega)
                rw [x1, nI_clamp (n := k) (by omega)]
                by_cases k4 : (3 : Int32) ≤ nI w
                · have h3 : 3 ≤ w := (cLe (a := 3) (b := w) rfl rfl (by omega) (by omega)).mp k4
                  rw [if_pos k4]
                  by_cases k5 : ¬ nI w = 3
                  · have h4 : w ≠ 3 := fun q => k5 (by rw [q]; rfl)
                    rw [if_pos k5]
                    have x2 : ((8 * nI k + nI w - 4 : Int32)).toNatClampNeg = 8 * k + (w - 4) := by
                      rw [show (8 * nI k + nI w - 4 : Int32) = nI (8 * k + (w - 4)) from subE (a := 8 * k + w) (b := 4) (addN (mulN rfl rfl) rfl) rfl (by omega)]
                      exact nI_clamp (by omega)
                    rw [x2, q3 (w - 4) (by omega)]
                    congr 1
                    omega
                  · rw [if_neg k5]
                    have h4 : w = 3 := (cEq (a := w) (b := 3) rfl rfl (by omega) (by omega)).mp (Classical.not_not.mp k5)
                    subst h4
                    exact q2.symm
                · rw [if_neg k4]
                  have h3 : w < 3 := Nat.lt_of_not_le (fun q => k4 ((cLe (a := 3) (b := w) rfl rfl (by omega) (by omega)).mpr q))
                  exact (q1 w h3).symm
              · rw [if_neg k3, if_neg k3]
theorem ob6 {PX : PXt} {CK : CKt} {j : Nat} (hj : j < 64) {σ : Hp} (H : Inv PX CK j σ) : Ob6 (Inv PX CK (j + 1)) σ := by
  intro a1 a2
  obtain ⟨P, P', Q, Q', hP, hQ, r1, r2, r3, r4, hb, hm⟩ := H.prog
  rcases hP with ⟨rfl, rfl⟩ | ⟨rfl, rfl⟩
  · rcases hQ with ⟨rfl, rfl⟩ | ⟨rfl, rfl⟩
    · have hb1 : (gI σ 21 10).toInt ≤ (2000 : Nat) := by
        rcases hm with ⟨_, _, _, z10, _⟩ | ⟨_, ⟨R, n, s, m, yb, _, _, ⟨y1, y2⟩, _⟩, _⟩
        · rw [z10]; decide
        · rw [y1]; exact nI_le32 yb.2.2.1 (by decide)
      rcases hm with ⟨h, z8, z9, z10, z11, z12, z1, z2, z3, z4⟩ | ⟨h, ⟨R, n, s, m, yb, _, _, ⟨y1, y2⟩, _, _, yr, _⟩, _⟩
      · have e1 : r_program_21 σ a1 a2 = -1 := by
          unfold r_program_21
          by_cases k0 : a1 < 0
          · rw [if_pos k0]
          · rw [if_neg k0, if_neg (by rw [z10]; exact k0)]
        exact ⟨-1, σ, σ, Cx_to (w_program_21 900 σ a1 a2 H.rf r1 hb1) e1 rfl, Cx_to (w_programM_87 900 σ a1 a2 H.rf r3 (by rw [z2]; decide)) (by rw [r_programM_87, if_pos h]) rfl, H.up⟩
      · have hb2 : (gI σ 87 2).toInt ≤ (2000 : Nat) := by rw [y2, ← y1]; exact hb1
        refine ⟨r_program_21 σ a1 a2, σ, σ, w_program_21 900 σ a1 a2 H.rf r1 hb1, Cx_to (w_programM_87 900 σ a1 a2 H.rf r3 hb2) ?_ rfl, H.up⟩
        unfold r_program_21 r_programM_87
        rw [y1, y2, h, if_neg (show ¬ (1 : Int32) = 0 by decide)]
        by_cases k0 : a1 < 0
        · rw [if_pos k0, if_pos k0]
        · rw [if_neg k0, if_neg k0]
          by_cases k1 : a1 < nI n
          · rw [if_pos k1, if_pos k1]
            obtain ⟨k, hk, rfl⟩ := nI_of k0
            have hkR : k < n := (cLt rfl rfl (by omega) (by omega)).mp k1
            obtain ⟨q1, q2, q3, q4⟩ := yr k hkR
            rw [nI_clamp (n := k) (by omega)]
            simp only [Nat.reduceAdd] at q1 q2 q3 q4
            rw [q1, q2, q3, q4]
          · rw [if_neg k1, if_neg k1]
    · have hb1 : (gI σ 21 10).toInt ≤ (2000 : Nat) := by
        rcases hm with ⟨_, _, _, z10, _⟩ | ⟨_, ⟨R, n, s, m, yb, _, _, ⟨y1, y2⟩, _⟩, _⟩
        · rw [z10]; decide
        · rw [y1]; exact nI_le32 yb.2.2.1 (by decide)
      rcases hm with ⟨h, z8, z9, z10, z11, z12, z1, z2, z3, z4⟩ | ⟨h, ⟨R, n, s, m, yb, _, _, ⟨y1, y2⟩, _, _, yr, _⟩, _⟩
      · have e1 : r_program_21 σ a1 a2 = -1 := by
          unfold r_program_21
          by_cases k0 : a1 < 0
          · rw [if_pos k0]
          · rw [if_neg k0, if_neg (by rw [z10]; exact k0)]
        exact ⟨-1, σ, σ, Cx_to (w_program_21 900 σ a1 a2 H.rf r1 hb1) e1 rfl, Cx_to (w_programM_95 900 σ a1 a2 H.rf r3 (by rw [z2]; decide)) (by rw [r_programM_95, if_pos h]) rfl, H.up⟩
      · have hb2 : (gI σ 95 2).toInt ≤ (2000 : Nat) := by rw [y2, ← y1]; exact hb1
        refine ⟨r_program_21 σ a1 a2, σ, σ, w_program_21 900 σ a1 a2 H.rf r1 hb1, Cx_to (w_programM_95 900 σ a1 a2 H.rf r3 hb2) ?_ rfl, H.up⟩
        unfold r_program_21 r_programM_95
        rw [y1, y2, h, if_neg (show ¬ (1 : Int32) = 0 by decide)]
        by_cases k0 : a1 < 0
        · rw [if_pos k0, if_pos k0]
        · rw [if_neg k0, if_neg k0]
          by_cases k1 : a1 < nI n
          · rw [if_pos k1, if_pos k1]
            obtain ⟨k, hk, rfl⟩ := nI_of k0
            have hkR : k < n := (cLt rfl rfl (by omega) (by omega)).mp k1
            obtain ⟨q1, q2, q3, q4⟩ := yr k hkR
            rw [nI_clamp (n := k) (by omega)]
            simp only [Nat.reduceAdd] at q1 q2 q3 q4
            rw [q1, q2, q3, q4]
          · rw [if_neg k1, if_neg k1]
  · rcases hQ with ⟨rfl, rfl⟩ | ⟨rfl, rfl⟩
    · have hb1 : (gI σ 30 10).toInt ≤ (2000 : Nat) := by
        rcases hm with ⟨_, _, _, z10, _⟩ | ⟨_, ⟨R, n, s, m, yb, _, _, ⟨y1, y2⟩, _⟩, _⟩
        · rw [z10]; decide
        · rw [y1]; exact nI_le32 yb.2.2.1 (by decide)
      rcases hm with ⟨h, z8, z9, z10, z11, z12, z1, z2, z3, z4⟩ | ⟨h, ⟨R, n, s, m, yb, _, _, ⟨y1, y2⟩, _, _, yr, _⟩, _⟩
      · have e1 : r_program_30 σ a1 a2 = -1 := by
          unfold r_program_30
          by_cases k0 : a1 < 0
          · rw [if_pos k0]
          · rw [if_neg k0, if_neg (by rw [z10]; exact k0)]
        exact ⟨-1, σ, σ, Cx_to (w_program_30 900 σ a1 a2 H.rf r1 hb1) e1 rfl, Cx_to (w_programM_87 900 σ a1 a2 H.rf r3 (by rw [z2]; decide)) (by rw [r_programM_87, if_pos h]) rfl, H.up⟩
      · have hb2 : (gI σ 87 2).toInt ≤ (2000 : Nat) := by rw [y2, ← y1]; exact hb1
        refine ⟨r_program_30 σ a1 a2, σ, σ, w_program_30 900 σ a1 a2 H.rf r1 hb1, Cx_to (w_programM_87 900 σ a1 a2 H.rf r3 hb2) ?_ rfl, H.up⟩
        unfold r_program_30 r_programM_87
        rw [y1, y2, h, if_neg (show ¬ (1 : Int32) = 0 by decide)]
        by_cases k0 : a1 < 0
        · rw [if_pos k0, if_pos k0]
        · rw [if_neg k0, if_neg k0]
          by_cases k1 : a1 < nI n
          · rw [if_pos k1, if_pos k1]
            obtain ⟨k, hk, rfl⟩ := nI_of k0
            have hkR : k < n := (cLt rfl rfl (by omega) (by omega)).mp k1
            obtain ⟨q1, q2, q3, q4⟩ := yr k hkR
            rw [nI_clamp (n := k) (by omega)]
            simp only [Nat.reduceAdd] at q1 q2 q3 q4
            rw [q1, q2, q3, q4]
          · rw [if_neg k1, if_neg k1]
    · have hb1 : (gI σ 30 10).toInt ≤ (2000 : Nat) := by
        rcases hm with ⟨_, _, _, z10, _⟩ | ⟨_, ⟨R, n, s, m, yb, _, _, ⟨y1, y2⟩, _⟩, _⟩
        · rw [z10]; decide
        · rw [y1]; exact nI_le32 yb.2.2.1 (by decide)
      rcases hm with ⟨h, z8, z9, z10, z11, z12, z1, z2, z3, z4⟩ | ⟨h, ⟨R, n, s, m, yb, _, _, ⟨y1, y2⟩, _, _, yr, _⟩, _⟩
      · have e1 : r_program_30 σ a1 a2 = -1 := by
          unfold r_program_30
          by_cases k0 : a1 < 0
          · rw [if_pos k0]
          · rw [if_neg k0, if_neg (by rw [z10]; exact k0)]
        exact ⟨-1, σ, σ, Cx_to (w_program_30 900 σ a1 a2 H.rf r1 hb1) e1 rfl, Cx_to (w_programM_95 900 σ a1 a2 H.rf r3 (by rw [z2]; decide)) (by rw [r_programM_95, if_pos h]) rfl, H.up⟩
      · have hb2 : (gI σ 95 2).toInt ≤ (2000 : Nat) := by rw [y2, ← y1]; exact hb1
        refine ⟨r_program_30 σ a1 a2, σ, σ, w_program_30 900 σ a1 a2 H.rf r1 hb1, Cx_to (w_programM_95 900 σ a1 a2 H.rf r3 hb2) ?_ rfl, H.up⟩
        unfold r_program_30 r_programM_95
        rw [y1, y2, h, if_neg (show ¬ (1 : Int32) = 0 by decide)]
        by_cases k0 : a1 < 0
        · rw [if_pos k0, if_pos k0]
        · rw [if_neg k0, if_neg k0]
          by_cases k1 : a1 < nI n
          · rw [if_pos k1, if_pos k1]
            obtain ⟨k, hk, rfl⟩ := nI_of k0
            have hkR : k < n := (cLt rfl rfl (by omega) (by omega)).mp k1
            obtain ⟨q1, q2, q3, q4⟩ := yr k hkR
            rw [nI_clamp (n := k) (by omega)]
            simp only [Nat.reduceAdd] at q1 q2 q3 q4
            rw [q1, q2, q3, q4]
          · rw [if_neg k1, if_neg k1]
theorem ob7 {PX : PXt} {CK : CKt} {j : Nat} (hj : j < 64) {σ : Hp} (H : Inv PX CK j σ) : Ob7 (Inv PX CK (j + 1)) σ := by
  intro a1 a2
  obtain ⟨P, P', Q, Q', hP, hQ, r1, r2, r3, r4, hb, hm⟩ := H.prog
  rcases hP with ⟨rfl, rfl⟩ | ⟨rfl, rfl⟩
  · rcases hQ with ⟨rfl, rfl⟩ | ⟨rfl, rfl⟩
    · have hb1 : (gI σ 21 11).toInt ≤ (128 : Nat) := by
        rcases hm with ⟨_, _, _, _, z11, _⟩ | ⟨_, ⟨R, n, s, m, yb, _, _, _, ⟨y1, y2⟩, _⟩, _⟩
        · rw [z11]; decide
        · rw [y1]; exact nI_le32 yb.2.2.2.1 (by decide)
      rcases hm with ⟨h, z8, z9, z10, z11, z12, z1, z2, z3, z4⟩ | ⟨h, ⟨R, n, s, m, yb, _, _, _, ⟨y1, y2⟩, _, _, yr, _⟩, _⟩
      · have e1 : r_set_21 σ a1 a2 = 0 := by
          unfold r_set_21
          by_cases k0 : a1 < 0
          · rw [if_pos k0]
          · rw [if_neg k0, if_pos (by rw [z11]; exact Int32.not_lt.mp k0)]
        exact ⟨0, σ, σ, Cx_to (w_set_21 900 σ a1 a2 H.rf r1 hb1) e1 rfl, Cx_to (w_setM_87 900 σ a1 a2 H.rf r3 (by rw [z3]; decide)) (by rw [r_setM_87, if_pos h]) rfl, H.up⟩
      · have hb2 : (gI σ 87 3).toInt ≤ (128 : Nat) := by rw [y2, ← y1]; exact hb1
        refine ⟨r_set_21 σ a1 a2, σ, σ, w_set_21 900 σ a1 a2 H.rf r1 hb1, Cx_to (w_setM_87 900 σ a1 a2 H.rf r3 hb2) ?_ rfl, H.up⟩
        unfold r_set_21 r_setM_87
        rw [y1, y2, h, if_neg (show ¬ (1 : Int32) = 0 by decide)]
        by_cases k0 : a1 < 0
        · rw [if_pos k0, if_pos k0]
        · rw [if_neg k0, if_neg k0]
          by_cases k1 : nI s ≤ a1
          · rw [if_pos k1, if_pos k1]
          · rw [if_neg k1, if_neg k1]
            by_cases k2 : a2 < 0
            · rw [if_pos k2, if_pos k2]
            · rw [if_neg k2, if_neg k2]
              by_cases k3 : a2 ≤ 7
              · rw [if_pos k3, if_pos k3]
                obtain ⟨k, hk, rfl⟩ := nI_of k0
                obtain ⟨w, hw, rfl⟩ := nI_of k2
                have hw7 : w ≤ 7 := (cLe (a := w) (b := 7) rfl rfl (by omega) (by omega)).mp k3
                have hkR : k < s := Nat.lt_of_not_le (fun q => k1 ((cLe rfl rfl (by omega) (by omega)).mpr q))
                have x1 : ((8 * nI k + nI w : Int32)).toNatClampNeg = 8 * k + w := by
                  rw [show (8 * nI k + nI w : Int32) = nI (8 * k + w) from addN (mulN rfl rfl) rfl]
                  exact nI_clamp (by omega)
                rw [x1]
                exact (yr (8 * k + w) (by omega)).symm
              · rw [if_neg k3, if_neg k3]
    · have hb1 : (gI σ 21 11).toInt ≤ (128 : Nat) := by
        rcases hm with ⟨_, _, _, _, z11, _⟩ | ⟨_, ⟨R, n, s, m, yb, _, _, _, ⟨y1, y2⟩, _⟩, _⟩
        · rw [z11]; decide
        · rw [y1]; exact nI_le32 yb.2.2.2.1 (by decide)
      rcases hm with ⟨h, z8, z9, z10, z11, z12, z1, z2, z3, z4⟩ | ⟨h, ⟨R, n, s, m, yb, _, _, _, ⟨y1, y2⟩, _, _, yr, _⟩, _⟩
      · have e1 : r_set_21 σ a1 a2 = 0 := by
          unfold r_set_21
          by_cases k0 : a1 < 0
          · rw [if_pos k0]
          · rw [if_neg k0, if_pos (by rw [z11]; exact Int32.not_lt.mp k0)]
        exact ⟨0, σ, σ, Cx_to (w_set_21 900 σ a1 a2 H.rf r1 hb1) e1 rfl, Cx_to (w_setM_95 900 σ a1 a2 H.rf r3 (by rw [z3]; decide)) (by rw [r_setM_95, if_pos h]) rfl, H.up⟩
      · have hb2 : (gI σ 95 3).toInt ≤ (128 : Nat) := by rw [y2, ← y1]; exact hb1
        refine ⟨r_set_21 σ a1 a2, σ, σ, w_set_21 900 σ a1 a2 H.rf r1 hb1, Cx_to (w_setM_95 900 σ a1 a2 H.rf r3 hb2) ?_ rfl, H.up⟩
        unfold r_set_21 r_setM_95
        rw [y1, y2, h, if_neg (show ¬ (1 : Int32) = 0 by decide)]
        by_cases k0 : a1 < 0
        · rw [if_pos k0, if_pos k0]
        · rw [if_neg k0, if_neg k0]
          by_cases k1 : nI s ≤ a1
          · rw [if_pos k1, if_pos k1]
          · rw [if_neg k1, if_neg k1]
            by_cases k2 : a2 < 0
            · rw [if_pos k2, if_pos k2]
            · rw [if_neg k2, if_neg k2]
              by_cases k3 : a2 ≤ 7
              · rw [if_pos k3, if_pos k3]
                obtain ⟨k, hk, rfl⟩ := nI_of k0
                obtain ⟨w, hw, rfl⟩ := nI_of k2
                have hw7 : w ≤ 7 := (cLe (a := w) (b := 7) rfl rfl (by omega) (by omega)).mp k3
                have hkR : k < s := Nat.lt_of_not_le (fun q => k1 ((cLe rfl rfl (by omega) (by omega)).mpr q))
                have x1 : ((8 * nI k + nI w : Int32)).toNatClampNeg = 8 * k + w := by
                  rw [show (8 * nI k + nI w : Int32) = nI (8 * k + w) from addN (mulN rfl rfl) rfl]
                  exact nI_clamp (by omega)
                rw [x1]
                exact (yr (8 * k + w) (by omega)).symm
              · rw [if_neg k3, if_neg k3]
  · rcases hQ with ⟨rfl, rfl⟩ | ⟨rfl, rfl⟩
    · have hb1 : (gI σ 30 11).toInt ≤ (128 : Nat) := by
        rcases hm with ⟨_, _, _, _, z11, _⟩ | ⟨_, ⟨R, n, s, m, yb, _, _, _, ⟨y1, y2⟩, _⟩, _⟩
        · rw [z11]; decide
        · rw [y1]; exact nI_le32 yb.2.2.2.1 (by decide)
      rcases hm with ⟨h, z8, z9, z10, z11, z12, z1, z2, z3, z4⟩ | ⟨h, ⟨R, n, s, m, yb, _, _, _, ⟨y1, y2⟩, _, _, yr, _⟩, _⟩
      · have e1 : r_set_30 σ a1 a2 = 0 := by
          unfold r_set_30
          by_cases k0 : a1 < 0
          · rw [if_pos k0]
          · rw [if_neg k0, if_pos (by rw [z11]; exact Int32.not_lt.mp k0)]
        exact ⟨0, σ, σ, Cx_to (w_set_30 900 σ a1 a2 H.rf r1 hb1) e1 rfl, Cx_to (w_setM_87 900 σ a1 a2 H.rf r3 (by rw [z3]; decide)) (by rw [r_setM_87, if_pos h]) rfl, H.up⟩
      · have hb2 : (gI σ 87 3).toInt ≤ (128 : Nat) := by rw [y2, ← y1]; exact hb1
        refine ⟨r_set_30 σ a1 a2, σ, σ, w_set_30 900 σ a1 a2 H.rf r1 hb1, Cx_to (w_setM_87 900 σ a1 a2 H.rf r3 hb2) ?_ rfl, H.up⟩
        unfold r_set_30 r_setM_87
        rw [y1, y2, h, if_neg (show ¬ (1 : Int32) = 0 by decide)]
        by_cases k0 : a1 < 0
        · rw [if_pos k0, if_pos k0]
        · rw [if_neg k0, if_neg k0]
          by_cases k1 : nI s ≤ a1
          · rw [if_pos k1, if_pos k1]
          · rw [if_neg k1, if_neg k1]
            by_cases k2 : a2 < 0
            · rw [if_pos k2, if_pos k2]
            · rw [if_neg k2, if_neg k2]
              by_cases k3 : a2 ≤ 7
              · rw [if_pos k3, if_pos k3]
                obtain ⟨k, hk, rfl⟩ := nI_of k0
                obtain ⟨w, hw, rfl⟩ := nI_of k2
                have hw7 : w ≤ 7 := (cLe (a := w) (b := 7) rfl rfl (by omega) (by omega)).mp k3
                have hkR : k < s := Nat.lt_of_not_le (fun q => k1 ((cLe rfl rfl (by omega) (by omega)).mpr q))
                have x1 : ((8 * nI k + nI w : Int32)).toNatClampNeg = 8 * k + w := by
                  rw [show (8 * nI k + nI w : Int32) = nI (8 * k + w) from addN (mulN rfl rfl) rfl]
                  exact nI_clamp (by omega)
                rw [x1]
                exact (yr (8 * k + w) (by omega)).symm
              · rw [if_neg k3, if_neg k3]
    · have hb1 : (gI σ 30 11).toInt ≤ (128 : Nat) := by
        rcases hm with ⟨_, _, _, _, z11, _⟩ | ⟨_, ⟨R, n, s, m, yb, _, _, _, ⟨y1, y2⟩, _⟩, _⟩
        · rw [z11]; decide
        · rw [y1]; exact nI_le32 yb.2.2.2.1 (by decide)
      rcases hm with ⟨h, z8, z9, z10, z11, z12, z1, z2, z3, z4⟩ | ⟨h, ⟨R, n, s, m, yb, _, _, _, ⟨y1, y2⟩, _, _, yr, _⟩, _⟩
      · have e1 : r_set_30 σ a1 a2 = 0 := by
          unfold r_set_30
          by_cases k0 : a1 < 0
          · rw [if_pos k0]
          · rw [if_neg k0, if_pos (by rw [z11]; exact Int32.not_lt.mp k0)]
        exact ⟨0, σ, σ, Cx_to (w_set_30 900 σ a1 a2 H.rf r1 hb1) e1 rfl, Cx_to (w_setM_95 900 σ a1 a2 H.rf r3 (by rw [z3]; decide)) (by rw [r_setM_95, if_pos h]) rfl, H.up⟩
      · have hb2 : (gI σ 95 3).toInt ≤ (128 : Nat) := by rw [y2, ← y1]; exact hb1
        refine ⟨r_set_30 σ a1 a2, σ, σ, w_set_30 900 σ a1 a2 H.rf r1 hb1, Cx_to (w_setM_95 900 σ a1 a2 H.rf r3 hb2) ?_ rfl, H.up⟩
        unfold r_set_30 r_setM_95
        rw [y1, y2, h, if_neg (show ¬ (1 : Int32) = 0 by decide)]
        by_cases k0 : a1 < 0
        · rw [if_pos k0, if_pos k0]
        · rw [if_neg k0, if_neg k0]
          by_cases k1 : nI s ≤ a1
          · rw [if_pos k1, if_pos k1]
          · rw [if_neg k1, if_neg k1]
            by_cases k2 : a2 < 0
            · rw [if_pos k2, if_pos k2]
            · rw [if_neg k2, if_neg k2]
              by_cases k3 : a2 ≤ 7
              · rw [if_pos k3, if_pos k3]
                obtain ⟨k, hk, rfl⟩ := nI_of k0
                obtain ⟨w, hw, rfl⟩ := nI_of k2
                have hw7 : w ≤ 7 := (cLe (a := w) (b := 7) rfl rfl (by omega) (by omega)).mp k3
                have hkR : k < s := Nat.lt_of_not_le (fun q => k1 ((cLe rfl rfl (by omega) (by omega)).mpr q))
                have x1 : ((8 * nI k + nI w : Int32)).toNatClampNeg = 8 * k + w := by
                  rw [show (8 * nI k + nI w : Int32) = nI (8 * k + w) from addN (mulN rfl rfl) rfl]
                  exact nI_clamp (by omega)
                rw [x1]
                exact (yr (8 * k + w) (by omega)).symm
              · rw [if_neg k3, if_neg k3]
theorem ob8 {PX : PXt} {CK : CKt} {j : Nat} (hj : j < 64) {σ : Hp} (H : Inv PX CK j σ) : Ob8 (Inv PX CK (j + 1)) σ := by
  intro a1
  obtain ⟨P, P', Q, Q', hP, hQ, r1, r2, r3, r4, hb, hm⟩ := H.prog
  rcases hP with ⟨rfl, rfl⟩ | ⟨rfl, rfl⟩
  · rcases hQ with ⟨rfl, rfl⟩ | ⟨rfl, rfl⟩
    · have hb1 : (gI σ 21 12).toInt ≤ (61440 : Nat) := by
        rcases hm with ⟨_, _, _, _, _, z12, _⟩ | ⟨_, ⟨R, n, s, m, yb, _, _, _, _, ⟨y1, y2⟩, _⟩, _⟩
        · rw [z12]; decide
        · rw [y1]; exact nI_le32 yb.2.2.2.2 (by decide)
      rcases hm with ⟨h, z8, z9, z10, z11, z12, z1, z2, z3, z4⟩ | ⟨h, ⟨R, n, s, m, yb, _, _, _, _, ⟨y1, y2⟩, _, _, yr, _⟩, _⟩
      · have e1 : r_image_21 σ a1 = -1 := by
          unfold r_image_21
          by_cases k0 : a1 < 0
          · rw [if_pos k0]
          · rw [if_neg k0, if_neg (by rw [z12]; exact k0)]
        exact ⟨-1, σ, σ, Cx_to (w_image_21 900 σ a1 H.rf r1 hb1) e1 rfl, Cx_to (w_imageM_87 900 σ a1 H.rf r3 (by rw [z4]; decide)) (by rw [r_imageM_87, if_pos h]) rfl, H.up⟩
      · have hb2 : (gI σ 87 4).toInt ≤ (61440 : Nat) := by rw [y2, ← y1]; exact hb1
        refine ⟨r_image_21 σ a1, σ, σ, w_image_21 900 σ a1 H.rf r1 hb1, Cx_to (w_imageM_87 900 σ a1 H.rf r3 hb2) ?_ rfl, H.up⟩
        unfold r_image_21 r_imageM_87
        rw [y1, y2, h, if_neg (show ¬ (1 : Int32) = 0 by decide)]
        by_cases k0 : a1 < 0
        · rw [if_pos k0, if_pos k0]
        · rw [if_neg k0, if_neg k0]
          by_cases k1 : a1 < nI m
          · rw [if_pos k1, if_pos k1]
            obtain ⟨k, hk, rfl⟩ := nI_of k0
            have hkR : k < m := (cLt rfl rfl (by omega) (by omega)).mp k1
            rw [nI_clamp (n := k) (by omega)]
            have := (yr k hkR).1
            simp only [Nat.reduceAdd] at this
            rw [this]
          · rw [if_neg k1, if_neg k1]
    · have hb1 : (gI σ 21 12).toInt ≤ (61440 : Nat) := by
        rcases hm with ⟨_, _, _, _, _, z12, _⟩ | ⟨_, ⟨R, n, s, m, yb, _, _, _, _, ⟨y1, y2⟩, _⟩, _⟩
        · rw [z12]; decide
        · rw [y1]; exact nI_le32 yb.2.2.2.2 (by decide)
      rcases hm with ⟨h, z8, z9, z10, z11, z12, z1, z2, z3, z4⟩ | ⟨h, ⟨R, n, s, m, yb, _, _, _, _, ⟨y1, y2⟩, _, _, yr, _⟩, _⟩
      · have e1 : r_image_21 σ a1 = -1 := by
          unfold r_image_21
          by_cases k0 : a1 < 0
          · rw [if_pos k0]
          · rw [if_neg k0, if_neg (by rw [z12]; exact k0)]
        exact ⟨-1, σ, σ, Cx_to (w_image_21 900 σ a1 H.rf r1 hb1) e1 rfl, Cx_to (w_imageM_95 900 σ a1 H.rf r3 (by rw [z4]; decide)) (by rw [r_imageM_95, if_pos h]) rfl, H.up⟩
      · have hb2 : (gI σ 95 4).toInt ≤ (61440 : Nat) := by rw [y2, ← y1]; exact hb1
        refine ⟨r_image_21 σ a1, σ, σ, w_image_21 900 σ a1 H.rf r1 hb1, Cx_to (w_imageM_95 900 σ a1 H.rf r3 hb2) ?_ rfl, H.up⟩
        unfold r_image_21 r_imageM_95
        rw [y1, y2, h, if_neg (show ¬ (1 : Int32) = 0 by decide)]
        by_cases k0 : a1 < 0
        · rw [if_pos k0, if_pos k0]
        · rw [if_neg k0, if_neg k0]
          by_cases k1 : a1 < nI m
          · rw [if_pos k1, if_pos k1]
            obtain ⟨k, hk, rfl⟩ := nI_of k0
            have hkR : k < m := (cLt rfl rfl (by omega) (by omega)).mp k1
            rw [nI_clamp (n := k) (by omega)]
            have := (yr k hkR).1
            simp only [Nat.reduceAdd] at this
            rw [this]
          · rw [if_neg k1, if_neg k1]
  · rcases hQ with ⟨rfl, rfl⟩ | ⟨rfl, rfl⟩
    · have hb1 : (gI σ 30 12).toInt ≤ (61440 : Nat) := by
        rcases hm with ⟨_, _, _, _, _, z12, _⟩ | ⟨_, ⟨R, n, s, m, yb, _, _, _, _, ⟨y1, y2⟩, _⟩, _⟩
        · rw [z12]; decide
        · rw [y1]; exact nI_le32 yb.2.2.2.2 (by decide)
      rcases hm with ⟨h, z8, z9, z10, z11, z12, z1, z2, z3, z4⟩ | ⟨h, ⟨R, n, s, m, yb, _, _, _, _, ⟨y1, y2⟩, _, _, yr, _⟩, _⟩
      · have e1 : r_image_30 σ a1 = -1 := by
          unfold r_image_30
          by_cases k0 : a1 < 0
          · rw [if_pos k0]
          · rw [if_neg k0, if_neg (by rw [z12]; exact k0)]
        exact ⟨-1, σ, σ, Cx_to (w_image_30 900 σ a1 H.rf r1 hb1) e1 rfl, Cx_to (w_imageM_87 900 σ a1 H.rf r3 (by rw [z4]; decide)) (by rw [r_imageM_87, if_pos h]) rfl, H.up⟩
      · have hb2 : (gI σ 87 4).toInt ≤ (61440 : Nat) := by rw [y2, ← y1]; exact hb1
        refine ⟨r_image_30 σ a1, σ, σ, w_image_30 900 σ a1 H.rf r1 hb1, Cx_to (w_imageM_87 900 σ a1 H.rf r3 hb2) ?_ rfl, H.up⟩
        unfold r_image_30 r_imageM_87
        rw [y1, y2, h, if_neg (show ¬ (1 : Int32) = 0 by decide)]
        by_cases k0 : a1 < 0
        · rw [if_pos k0, if_pos k0]
        · rw [if_neg k0, if_neg k0]
          by_cases k1 : a1 < nI m
          · rw [if_pos k1, if_pos k1]
            obtain ⟨k, hk, rfl⟩ := nI_of k0
            have hkR : k < m := (cLt rfl rfl (by omega) (by omega)).mp k1
            rw [nI_clamp (n := k) (by omega)]
            have := (yr k hkR).1
            simp only [Nat.reduceAdd] at this
            rw [this]
          · rw [if_neg k1, if_neg k1]
    · have hb1 : (gI σ 30 12).toInt ≤ (61440 : Nat) := by
        rcases hm with ⟨_, _, _, _, _, z12, _⟩ | ⟨_, ⟨R, n, s, m, yb, _, _, _, _, ⟨y1, y2⟩, _⟩, _⟩
        · rw [z12]; decide
        · rw [y1]; exact nI_le32 yb.2.2.2.2 (by decide)
      rcases hm with ⟨h, z8, z9, z10, z11, z12, z1, z2, z3, z4⟩ | ⟨h, ⟨R, n, s, m, yb, _, _, _, _, ⟨y1, y2⟩, _, _, yr, _⟩, _⟩
      · have e1 : r_image_30 σ a1 = -1 := by
          unfold r_image_30
          by_cases k0 : a1 < 0
          · rw [if_pos k0]
          · rw [if_neg k0, if_neg (by rw [z12]; exact k0)]
        exact ⟨-1, σ, σ, Cx_to (w_image_30 900 σ a1 H.rf r1 hb1) e1 rfl, Cx_to (w_imageM_95 900 σ a1 H.rf r3 (by rw [z4]; decide)) (by rw [r_imageM_95, if_pos h]) rfl, H.up⟩
      · have hb2 : (gI σ 95 4).toInt ≤ (61440 : Nat) := by rw [y2, ← y1]; exact hb1
        refine ⟨r_image_30 σ a1, σ, σ, w_image_30 900 σ a1 H.rf r1 hb1, Cx_to (w_imageM_95 900 σ a1 H.rf r3 hb2) ?_ rfl, H.up⟩
        unfold r_image_30 r_imageM_95
        rw [y1, y2, h, if_neg (show ¬ (1 : Int32) = 0 by decide)]
        by_cases k0 : a1 < 0
        · rw [if_pos k0, if_pos k0]
        · rw [if_neg k0, if_neg k0]
          by_cases k1 : a1 < nI m
          · rw [if_pos k1, if_pos k1]
            obtain ⟨k, hk, rfl⟩ := nI_of k0
            have hkR : k < m := (cLt rfl rfl (by omega) (by omega)).mp k1
            rw [nI_clamp (n := k) (by omega)]
            have := (yr k hkR).1
            simp only [Nat.reduceAdd] at this
            rw [this]
          · rw [if_neg k1, if_neg k1]
theorem ob12 {PX : PXt} {CK : CKt} {j : Nat} (hj : j < 64) {σ : Hp} (H : Inv PX CK j σ) : Ob12 (Inv PX CK (j + 1)) σ := by
  exact ⟨r_peak σ, σ, σ, w_peak 900 σ H.rf, Cx_to (w_peakM 900 σ) H.out.1.symm rfl, H.up⟩
theorem ob13 {PX : PXt} {CK : CKt} {j : Nat} (hj : j < 64) {σ : Hp} (H : Inv PX CK j σ) : Ob13 (Inv PX CK (j + 1)) σ := by
  intro a1 a2
  obtain ⟨⟨e0, he0, q0⟩, _⟩ := H.own
  have hb2 : (gI σ 66 87).toInt ≤ (1002 : Nat) := by rw [q0]; exact nI_le32 he0 (by decide)
  rcases H.out.2 with ⟨h1, h2⟩ | ⟨h1, e, he, q1, q2, qa⟩
  · have hb1 : (gI σ 63 2).toInt ≤ (1000 : Nat) := by rw [h2]; decide
    have e1 : r_event σ a1 a2 = -1 := by
      unfold r_event
      by_cases k0 : a1 < 0
      · rw [if_pos k0]
      · rw [if_neg k0, if_pos (by rw [h2]; exact Int32.not_lt.mp k0)]
    exact ⟨-1, σ, σ, Cx_to (w_event 900 σ a1 a2 H.rf hb1) e1 rfl, Cx_to (w_eventM 900 σ a1 a2 H.rf hb2) (by rw [r_eventM, if_pos h1]) rfl, H.up⟩
  · have hb1 : (gI σ 63 2).toInt ≤ (1000 : Nat) := by rw [q1]; exact nI_le32 he (by decide)
    refine ⟨r_event σ a1 a2, σ, σ, w_event 900 σ a1 a2 H.rf hb1, Cx_to (w_eventM 900 σ a1 a2 H.rf hb2) ?_ rfl, H.up⟩
    unfold r_event r_eventM
    rw [if_neg h1, q1, q2]
    by_cases k0 : a1 < 0
    · rw [if_pos k0, if_pos k0]
    · rw [if_neg k0, if_neg k0]
      by_cases k1 : a1 < nI e
      · rw [if_pos k1, if_neg (Int32.not_le.mpr k1)]
        obtain ⟨k, hk, rfl⟩ := nI_of k0
        have hkR : k < e := (cLt rfl rfl (by omega) (by omega)).mp k1
        rw [nI_clamp (n := k) (by omega)]
        obtain ⟨y1, y2, y3⟩ := qa k hkR
        obtain ⟨c, hc, y4⟩ := nI_of y3
        rw [y1, y2, y4]
        by_cases k2 : a2 < 0
        · rw [if_pos k2, if_pos (fun q => by rw [q] at k2; exact absurd k2 (by decide)), if_pos (fun q => by rw [q] at k2; exact absurd k2 (by decide)), if_pos (fun q => by rw [q] at k2; exact absurd k2 (by decide))]
        · rw [if_neg k2]
          by_cases k3 : a2 ≤ 2
          · rw [if_pos k3]
            by_cases k4 : a2 = 0
            · rw [if_neg (fun q => q k4), if_pos (by rw [k4]; decide), if_neg (fun q => q k4)]
              rw [show (nI c / 2 : Int32) = nI (c / 2) from pk_div (d := 2) hc (by omega) (by omega)]
              exact (pk_shrN hc (1 &&& 31) 1 (by decide)).symm
            · by_cases k5 : a2 = 1
              · rw [if_pos k4, if_neg (fun q => q k5), if_pos (by rw [k5]; decide), if_pos k4]
                rw [show (nI c - nI c / 2 * 2 : Int32) = nI (c % 2) from pk_rem (d := 2) hc (by omega) (by omega)]
                exact (pk_andN (by omega) 1 (by decide)).symm
              · have k6 : a2 = 2 := by
                  obtain ⟨w, hw, rfl⟩ := nI_of k2
                  have : w ≤ 2 := (cLe (a := w) (b := 2) rfl rfl (by omega) (by omega)).mp k3
                  have h0 : w ≠ 0 := fun q => k4 (by rw [q]; rfl)
                  have h1 : w ≠ 1 := fun q => k5 (by rw [q]; rfl)
                  have : w = 2 := by omega
                  rw [this]; rfl
                rw [if_pos k4, if_pos k5, if_neg (fun q => q k6), if_neg (fun q => q k6)]
          · have n2 : ∀ x : Int32, x ≤ 2 → ¬ a2 = x := fun x hx q => k3 (by rw [q]; exact hx)
            rw [if_neg k3, if_pos (n2 0 (by decide)), if_pos (n2 1 (by decide)), if_pos (n2 2 (by decide))]
      · rw [if_neg k1, if_pos (Int32.not_lt.mp k1)]
theorem ob18 {PX : PXt} {CK : CKt} {j : Nat} (hj : j < 64) {σ : Hp} (H : Inv PX CK j σ) : Ob18 (Inv PX CK (j + 1)) σ := by
  intro a1
  obtain ⟨_, _, hr, hf, _, he, hs, _, _⟩ := H.proc
  refine ⟨r_get σ a1, σ, σ, w_get 900 σ a1 H.rf, Cx_to (w_getM 900 σ a1 H.rf) ?_ rfl, H.up⟩
  unfold r_get r_getM
  rw [hf, he, hs]
  by_cases k0 : a1 < 0
  · have n2 : ∀ x : Int32, ¬ x < 0 → ¬ a1 = x := fun x hx q => hx (by rw [← q]; exact k0)
    rw [if_neg (fun q => absurd k0 (Int32.not_lt.mpr q)), if_pos k0, if_neg (n2 8 (by decide)), if_neg (n2 9 (by decide)), if_neg (n2 10 (by decide))]
  · rw [if_neg k0, if_pos (Int32.not_lt.mp k0)]
    by_cases k1 : 8 ≤ a1
    · rw [if_pos k1, if_pos k1]
      simp only [ite_not]
    · rw [if_neg k1, if_neg k1]
      obtain ⟨k, hk, rfl⟩ := nI_of k0
      have hkR : k < 8 := Nat.lt_of_not_le (fun q => k1 ((cLe (a := 8) rfl rfl (by omega) (by omega)).mpr q))
      rw [nI_clamp (n := k) (by omega)]
      exact (hr k hkR).symm
theorem ob19 {PX : PXt} {CK : CKt} {j : Nat} (hj : j < 64) {σ : Hp} (H : Inv PX CK j σ) : Ob19 (Inv PX CK (j + 1)) σ := by
  intro a1 a2
  obtain ⟨p1, p2, hr, hf, hg, he, hs, hd, hd2⟩ := H.proc
  by_cases k0 : a1 < 0
  · exact ⟨0, σ, σ, Cx_to (w_put 900 σ a1 a2 H.rf) (by rw [r_put, if_pos k0]) (by rw [t_put, if_pos k0]), Cx_to (w_putM 900 σ a1 a2 H.rf) (by rw [r_putM, if_pos k0]) (by rw [t_putM, if_pos k0]), H.up⟩
  · by_cases k1 : a1 ≤ 8
    · by_cases k2 : ¬ a1 = 8
      · obtain ⟨k, hk, rfl⟩ := nI_of k0
        have h8 : k ≤ 8 := (cLe (a := k) (b := 8) rfl rfl (by omega) (by omega)).mp k1
        have h8' : k ≠ 8 := fun q => k2 (by rw [q]; rfl)
        refine ⟨1, pA σ 51 k a2, pA (pA σ 51 k a2) 113 k a2, Cx_to (w_put 900 σ (nI k) a2 H.rf) (by rw [r_put, if_neg k0, if_pos k1]) (by rw [t_put, if_neg k0, if_pos k1, if_pos k2, nI_clamp (by omega)]), Cx_to (w_putM 900 (pA σ 51 k a2) (nI k) a2 H.rf) (by rw [r_putM, if_neg k0, if_pos k1]) (by rw [t_putM, if_neg k0, if_pos k1, if_pos k2, nI_clamp (by omega)]), ?_⟩
        refine ⟨H.rf, H.tape.up, H.subj.up, H.flt, H.prog.keep (keep_pA (keep_pA (keep_0 σ) rfl) rfl) rfl rfl, ⟨p1, p2, ?_, hf, hg, he, hs, hd, hd2⟩, H.chk, H.out, H.own⟩
        intro i hi
        show (if i = k then a2 else gA σ 51 i) = (if i = k then a2 else gA σ 113 i)
        rw [hr i hi]
      · refine ⟨1, pI σ 52 0 (a2 &&& 2261), pI (pI σ 52 0 (a2 &&& 2261)) 66 53 (a2 &&& 2261), Cx_to (w_put 900 σ a1 a2 H.rf) (by rw [r_put, if_neg k0, if_pos k1]) (by rw [t_put, if_neg k0, if_pos k1, if_neg k2]), Cx_to (w_putM 900 (pI σ 52 0 (a2 &&& 2261)) a1 a2 H.rf) (by rw [r_putM, if_neg k0, if_pos k1]) (by rw [t_putM, if_neg k0, if_pos k1, if_neg k2]), ?_⟩
        refine ⟨H.rf, H.tape.up, H.subj.up, H.flt, H.prog.keep (keep_pI (keep_pI (keep_0 σ) rfl) rfl) rfl rfl, ⟨p1, p2, hr, rfl, ?_, he, hs, hd, hd2⟩, H.chk, H.out, H.own⟩
        show (a2 &&& 2261) &&& 2261 = a2 &&& 2261
        rw [Int32.and_assoc]
        rfl
    · exact ⟨0, σ, σ, Cx_to (w_put 900 σ a1 a2 H.rf) (by rw [r_put, if_neg k0, if_neg k1]) (by rw [t_put, if_neg k0, if_neg k1]), Cx_to (w_putM 900 σ a1 a2 H.rf) (by rw [r_putM, if_neg k0, if_neg k1]) (by rw [t_putM, if_neg k0, if_neg k1]), H.up⟩
theorem ob16 {PX : PXt} {CK : CKt} {j : Nat} (hj : j < 64) {σ : Hp} (H : Inv PX CK j σ) : Ob16 (Inv PX CK (j + 1)) σ := by
  intro a1
  obtain ⟨p1, p2, hr, hf, hg, he, hs, hd, hd2⟩ := H.proc
  by_cases k0 : a1 < 0
  · exact ⟨0, σ, σ, Cx_to (w_begin 899 σ a1 H.rf) (by rw [r_begin, if_pos k0]) (by rw [t_begin, if_pos k0]), Cx_to (w_beginM 900 σ a1) (by rw [r_beginM, if_pos k0]) (by rw [t_beginM, if_pos k0]), H.up⟩
  · by_cases k1 : a1 ≤ 65535
    · refine ⟨1, t_goTo σ a1, pI (pI (t_goTo σ a1) 66 54 (65536 + a1)) 66 55 0, Cx_to (w_begin 899 σ a1 H.rf) (by rw [r_begin, if_neg k0, if_pos k1]) (by rw [t_begin, if_neg k0, if_pos k1]), Cx_to (w_beginM 900 (t_goTo σ a1) a1) (by rw [r_beginM, if_neg k0, if_pos k1]) (by rw [t_beginM, if_neg k0, if_pos k1]), ?_⟩
      exact ⟨H.rf, H.tape.up, H.subj.up, H.flt, H.prog.keep (keep_pI (keep_pI (keep_pI (keep_pI (keep_0 σ) rfl) rfl) rfl) rfl) rfl rfl, ⟨p1, p2, hr, hf, hg, rfl, rfl, hd, hd2⟩, H.chk, H.out, H.own⟩
    · exact ⟨0, σ, σ, Cx_to (w_begin 899 σ a1 H.rf) (by rw [r_begin, if_neg k0, if_neg k1]) (by rw [t_begin, if_neg k0, if_neg k1]), Cx_to (w_beginM 900 σ a1) (by rw [r_beginM, if_neg k0, if_neg k1]) (by rw [t_beginM, if_neg k0, if_neg k1]), H.up⟩
theorem ob9 {PX : PXt} {CK : CKt} {j : Nat} (hj : j < 64) {σ : Hp} (H : Inv PX CK j σ) : Ob9 (Inv PX CK (j + 1)) σ := by
  obtain ⟨t, ht, e1, e2, eA, bA⟩ := H.tape
  have hB : ∀ k, k < 4000 → fits (tyA 0) (.int (gA σ 1 k)) = true := fun k hk => fits8 (bA k hk)
  obtain ⟨u, hu, e3, e4, eS, bS⟩ := H.subj
  refine ⟨nI t, t_subject σ t, t_subjectM (t_subject σ t) t, Cx_to (w_subject 899 σ t H.rf (by omega) e1 hB) rfl rfl, Cx_to (w_subjectM 900 (t_subject σ t) t H.rf (by omega) e2) rfl rfl, ?_⟩
  refine ⟨H.rf, ⟨0, by omega, rfl, rfl, eA, bA⟩, ⟨t, by omega, rfl, rfl, ?_, ?_⟩, H.flt, H.prog.keep (keep_pI (keep_pI (keep_rA (keep_pI (keep_pI (keep_rA (keep_0 σ) rfl) rfl) rfl) rfl) rfl) rfl) rfl rfl, H.proc, H.chk, H.out, H.own⟩
  · intro k hk
    show va_cpy (gA σ 1) (gA σ 2) 0 0 t k = (if k < t then (gA σ 68 k).toInt8.toInt32 else _)
    rw [pk_cpy_in (Nat.zero_le k) (by omega), if_pos hk, show 0 + (k - 0) = k from by omega, ← eA k (by omega), bA k (by omega)]
  · intro k hk
    show (va_cpy (gA σ 1) (gA σ 2) 0 0 t k).toInt8.toInt32 = va_cpy (gA σ 1) (gA σ 2) 0 0 t k
    by_cases h : k < t
    · rw [pk_cpy_in (Nat.zero_le k) (by omega), show 0 + (k - 0) = k from by omega]; exact bA k hk
    · rw [pk_cpy_out (Or.inr (by omega))]; exact bS k hk
theorem ob14 {PX : PXt} {CK : CKt} {j : Nat} (hj : j < 64) {σ : Hp} (H : Inv PX CK j σ) : Ob14 (Inv PX CK (j + 1)) σ := by
  obtain ⟨t, ht, e1, e2, eA, bA⟩ := H.tape
  have hB : ∀ k, k < 4000 → fits (tyA 0) (.int (gA σ 1 k)) = true := fun k hk => fits8 (bA k hk)
  obtain ⟨p1, p2, hr, hf, hg, he, hs, hd, hd2⟩ := H.proc
  have hmin : min t 4000 = t := by omega
  refine ⟨nI t, t_place σ t, t_placeM (t_place σ t) t, Cx_to (w_place 898 σ t H.rf (by omega) e1 hB) rfl rfl, Cx_to (w_placeM 900 (t_place σ t) t H.rf (by omega) e2) rfl rfl, ?_⟩
  refine ⟨H.rf, ⟨0, by omega, rfl, rfl, eA, bA⟩, H.subj.up, H.flt, H.prog.keep (keep_pI (keep_pI (keep_pI (keep_pI (keep_rA (keep_pI (keep_pI (keep_pI (keep_pI (keep_rA (keep_pI (keep_0 σ) rfl) rfl) rfl) rfl) rfl) rfl) rfl) rfl) rfl) rfl) rfl) rfl rfl, ⟨⟨t, by omega, ?_, rfl, ?_⟩, ?_, hr, hf, hg, rfl, rfl, hd, hd2⟩, Or.inl rfl, H.out, H.own⟩
  · show nI (min t 4000) = nI t
    rw [hmin]
  · intro k hk
    show va_cpy (gA σ 1) (gA σ 53) 0 0 (min t 4000) k = (if k < t then (gA σ 68 k).toInt8.toInt32 else _)
    rw [hmin, pk_cpy_in (Nat.zero_le k) (by omega), if_pos hk, show 0 + (k - 0) = k from by omega, ← eA k (by omega), bA k (by omega)]
  · intro k hk
    show (va_cpy (gA σ 1) (gA σ 53) 0 0 (min t 4000) k).toInt8.toInt32 = va_cpy (gA σ 1) (gA σ 53) 0 0 (min t 4000) k
    by_cases h : k < t
    · rw [hmin, pk_cpy_in (Nat.zero_le k) (by omega), show 0 + (k - 0) = k from by omega]; exact bA k (by omega)
    · rw [hmin, pk_cpy_out (Or.inr (by omega))]; exact p2 k hk
theorem ob20 {PX : PXt} {CK : CKt} {j : Nat} (hj : j < 64) {σ : Hp} (H : Inv PX CK j σ) : Ob20 (Inv PX CK (j + 1)) σ := by
  intro a1 a2
  obtain ⟨p1, p2, hr, hf, hg, he, hs, hd, hd2⟩ := H.proc
  by_cases k0 : a1 < 0
  · exact ⟨0, σ, σ, Cx_to (w_storeN 900 σ a1 a2 k0) rfl rfl, Cx_to (w_storeMN 900 σ a1 a2 k0) rfl rfl, H.up⟩
  · obtain ⟨p, hp, rfl⟩ := nI_of k0
    have hp0 : ¬ p < 0 := by omega
    by_cases k1 : p ≤ 65532
    · have hRt : Rf (rA σ 54 (w4 (gA σ 54) p a2)) := Rf_rA H.rf
      have c1 := Cx_to (w_store 899 σ p a2 H.rf hp) (show r_store σ p a2 = 1 by rw [r_store, if_neg hp0, if_pos k1]) (show t_store σ p a2 = rA σ 54 (w4 (gA σ 54) p a2) by rw [t_store, if_neg hp0, if_pos k1, wW_eq])
      have c2 := Cx_to (w_storeM 899 (rA σ 54 (w4 (gA σ 54) p a2)) p a2 hRt hp) (show r_storeM (rA σ 54 (w4 (gA σ 54) p a2)) p a2 = 1 by rw [r_storeM, if_neg hp0, if_pos k1]) (show t_storeM (rA σ 54 (w4 (gA σ 54) p a2)) p a2 = rA (rA σ 54 (w4 (gA σ 54) p a2)) 112 (w4 (gA σ 112) p a2) by rw [t_storeM, if_neg hp0, if_pos k1, wWM_eq, gA_rA_ne _ _ (by decide)])
      refine ⟨1, rA σ 54 (w4 (gA σ 54) p a2), rA (rA σ 54 (w4 (gA σ 54) p a2)) 112 (w4 (gA σ 112) p a2), c1, c2, ?_⟩
      refine ⟨Rf_rA hRt, H.tape.up, H.subj.up, H.flt, H.prog.keep (keep_rA (keep_rA (keep_0 σ) rfl) rfl) rfl rfl, ⟨p1, p2, hr, hf, hg, he, hs, ?_, ?_⟩, H.chk, H.out, H.own⟩
      · intro k hk
        show w4 (gA σ 54) p a2 k = w4 (gA σ 112) p a2 k
        unfold w4
        rw [hd k hk]
      · intro k hk
        exact w4_B (hd2 k hk)
    · exact ⟨0, σ, σ, Cx_to (w_store 899 σ p a2 H.rf hp) (by rw [r_store, if_neg hp0, if_neg k1]) (by rw [t_store, if_neg hp0, if_neg k1]), Cx_to (w_storeM 899 σ p a2 H.rf hp) (by rw [r_storeM, if_neg hp0, if_neg k1]) (by rw [t_storeM, if_neg hp0, if_neg k1]), H.up⟩
theorem ob21 {PX : PXt} {CK : CKt} {j : Nat} (hj : j < 64) {σ : Hp} (H : Inv PX CK j σ) : Ob21 (Inv PX CK (j + 1)) σ := by
  intro a1
  obtain ⟨p1, p2, hr, hf, hg, he, hs, hd, hd2⟩ := H.proc
  by_cases k0 : a1 < 0
  · exact ⟨0, σ, σ, Cx_to (w_loadN 900 σ a1 k0) rfl rfl, Cx_to (w_loadMN 900 σ a1 k0) rfl rfl, H.up⟩
  · obtain ⟨p, hp, rfl⟩ := nI_of k0
    have hp0 : ¬ p < 0 := by omega
    refine ⟨r_load σ p, σ, σ, w_load 899 σ p H.rf hp, Cx_to (w_loadM 899 σ p H.rf hp) ?_ rfl, H.up⟩
    unfold r_load r_loadM
    by_cases k1 : p ≤ 65532
    · rw [if_neg hp0, if_neg hp0, if_pos k1, if_pos k1]
      unfold r_rW r_rWM
      rw [hd p (by omega), hd (p + 1) (by omega), hd (p + 2) (by omega), hd (p + 3) (by omega)]
      exact rdEq _ _ _ _
    · rw [if_neg hp0, if_neg hp0, if_neg k1, if_neg k1]
theorem ob0 {PX : PXt} {CK : CKt} {j : Nat} (hj : j < 64) {σ : Hp} (H : Inv PX CK j σ) : Ob0 (Inv PX CK (j + 1)) σ := by
  intro a1 a2 a3 a4 a5
  obtain ⟨t, ht, e1, e2, eA, bA⟩ := H.tape
  have h1 : t ≤ 3980 := by omega
  have h2 : t + 20 ≤ 4000 := by omega
  have c1 := Cx_to (w_feed 899 σ a1 a2 a3 a4 a5 t H.rf (by omega) e1) (show r_feed σ a1 a2 a3 a4 a5 t = nI (t + 20) by rw [r_feed, if_pos h1]) (feed_eq σ a1 a2 a3 a4 a5 t h1)
  have hRt : Rf (pI (rA σ 1 (f20 (gA σ 1) t a1 a2 a3 a4 a5)) 0 1 (nI (t + 20))) := Rf_pI (Rf_rA H.rf)
  have c2 := Cx_to (w_feedM 900 (pI (rA σ 1 (f20 (gA σ 1) t a1 a2 a3 a4 a5)) 0 1 (nI (t + 20))) a1 a2 a3 a4 a5 t hRt (by omega) ((gI_pI (by decide)).trans (gI_rA.trans e2))) (show r_feedM _ a1 a2 a3 a4 a5 t = nI (t + 20) by rw [r_feedM, if_pos h2]) (feedM_eq _ a1 a2 a3 a4 a5 t h2)
  refine ⟨_, _, _, c1, c2, ?_⟩
  refine ⟨Rf_pI (Rf_rA hRt), ⟨t + 20, by omega, (gI_pI (by decide)).trans (gI_rA.trans gI_pIs), gI_pIs, ?_, ?_⟩, H.subj.up, H.flt, H.prog.keep (keep_pI (keep_rA (keep_pI (keep_rA (keep_0 σ) rfl) rfl) rfl) rfl) rfl rfl, H.proc, H.chk, H.out, H.own⟩
  · intro k hk
    show f20 (gA σ 1) t a1 a2 a3 a4 a5 k = f20 (gA σ 68) t a1 a2 a3 a4 a5 k
    exact f20_congr (eA k hk) t a1 a2 a3 a4 a5
  · intro k hk
    exact f20_B (bA k hk) t a1 a2 a3 a4 a5

/-! ===== arm ===== -/
/-- words g 0 .. laid from 4096 on -/
def wrS (f g : Nat → Int32) : Nat → Nat → Int32
  | 0 => f
  | k + 1 => w4 (wrS f g k) (4 * k + 4096) (g k)
theorem wrS_step (σ : Hp) (c : Nat) (g : Nat → Int32) (k : Nat) {p : Nat} {v : Int32} (hp : p = 4 * k + 4096) (hv : v = g k) : t_wW (rA σ 54 (wrS (gA σ 54) g k)) p v = rA σ 54 (wrS (gA σ 54) g (k + 1)) := by
  rw [wW_eq, gA_rA, rA_rA, hp, hv]
  rfl
theorem wrS_stepM (σ : Hp) (c : Nat) (g : Nat → Int32) (k : Nat) {p : Nat} {v : Int32} (hp : p = 4 * k + 4096) (hv : v = g k) : t_wWM (rA σ 112 (wrS (gA σ 112) g k)) p v = rA σ 112 (wrS (gA σ 112) g (k + 1)) := by
  rw [wWM_eq, gA_rA, rA_rA, hp, hv]
  rfl
theorem rA_wrS0 (σ : Hp) (c : Nat) (g : Nat → Int32) : σ = rA σ c (wrS (gA σ c) g 0) := (rA_id σ c).symm
theorem w4_comm (f : Nat → Int32) (p q : Nat) (v w : Int32) (h : p + 4 ≤ q) : w4 (w4 f p v) q w = w4 (w4 f q w) p v := by
  funext k
  unfold w4
  by_cases h3 : k < q
  · rw [if_neg (show ¬ k = q + 3 by omega), if_neg (show ¬ k = q + 2 by omega), if_neg (show ¬ k = q + 1 by omega), if_neg (show ¬ k = q by omega), if_neg (show ¬ k = q + 3 by omega), if_neg (show ¬ k = q + 2 by omega), if_neg (show ¬ k = q + 1 by omega), if_neg (show ¬ k = q by omega)]
  · rw [if_neg (show ¬ k = p + 3 by omega), if_neg (show ¬ k = p + 2 by omega), if_neg (show ¬ k = p + 1 by omega), if_neg (show ¬ k = p by omega), if_neg (show ¬ k = p + 3 by omega), if_neg (show ¬ k = p + 2 by omega), if_neg (show ¬ k = p + 1 by omega), if_neg (show ¬ k = p by omega)]
theorem wrS_w4 (f g : Nat → Int32) (v : Int32) : ∀ n, n ≤ 1024 → wrS (w4 f 8192 v) g n = w4 (wrS f g n) 8192 v := by
  intro n
  induction n with
  | zero => intro _; rfl
  | succ n ih =>
    intro hn
    show w4 (wrS (w4 f 8192 v) g n) (4 * n + 4096) (g n) = w4 (w4 (wrS f g n) (4 * n + 4096) (g n)) 8192 v
    rw [ih (by omega), w4_comm _ (4 * n + 4096) 8192 _ _ (by omega)]
theorem wrS_congr {f f' g g' : Nat → Int32} {n k : Nat} (hf : f k = f' k) (hg : ∀ i, i < n → g i = g' i) : wrS f g n k = wrS f' g' n k := by
  induction n with
  | zero => exact hf
  | succ n ih =>
    have h1 := ih (fun i hi => hg i (by omega))
    show w4 (wrS f g n) _ (g n) k = w4 (wrS f' g' n) _ (g' n) k
    rw [hg n (by omega)]
    unfold w4
    rw [h1]
theorem wrS_B {f g : Nat → Int32} {k : Nat} (hf : (f k).toInt8.toInt32 = f k) : ∀ n, (wrS f g n k).toInt8.toInt32 = wrS f g n k := by
  intro n
  induction n with
  | zero => exact hf
  | succ n ih => exact w4_B ih
theorem rA_cpy0r (σ : Hp) (c : Nat) (f : Nat → Int32) {r : Nat → Int32} (h : gA σ c = r) : σ = rA σ c (cpy f r 0) := by rw [← h]; exact rA_cpy0 σ c f
theorem rA_wrS0r (σ : Hp) (c : Nat) (g : Nat → Int32) {r : Nat → Int32} (h : gA σ c = r) : σ = rA σ c (wrS r g 0) := by rw [← h]; exact rA_wrS0 σ c g
theorem wrS_stepMr (σ : Hp) (f g : Nat → Int32) (k : Nat) {p : Nat} {v : Int32} (hp : p = 4 * k + 4096) (hv : v = g k) : t_wWM (rA σ 112 (wrS f g k)) p v = rA σ 112 (wrS f g (k + 1)) := by
  rw [wWM_eq, gA_rA, rA_rA, hp, hv]
  rfl
theorem dJ7_fill_53178_0 : decode cJ7_fill_53178 0 = .ok (.iconst 0, 1) := by decide +kernel
theorem dJ7_fill_53178_1 : decode cJ7_fill_53178 1 = .ok (.istore_n 2, 1) := by decide +kernel
theorem dJ7_fill_53178_2 : decode cJ7_fill_53178 2 = .ok (.aload_n 0, 1) := by decide +kernel
theorem dJ7_fill_53178_3 : decode cJ7_fill_53178 3 = .ok (.arraylength, 1) := by decide +kernel
theorem dJ7_fill_53178_4 : decode cJ7_fill_53178 4 = .ok (.istore_n 3, 1) := by decide +kernel
theorem dJ7_fill_53178_5 : decode cJ7_fill_53178 5 = .ok (.iload_n 2, 1) := by decide +kernel
theorem dJ7_fill_53178_6 : decode cJ7_fill_53178 6 = .ok (.iload_n 3, 1) := by decide +kernel
theorem dJ7_fill_53178_7 : decode cJ7_fill_53178 7 = .ok (.if_icmp .ge 13, 3) := by decide +kernel
theorem dJ7_fill_53178_10 : decode cJ7_fill_53178 10 = .ok (.aload_n 0, 1) := by decide +kernel
theorem dJ7_fill_53178_11 : decode cJ7_fill_53178 11 = .ok (.iload_n 2, 1) := by decide +kernel
theorem dJ7_fill_53178_12 : decode cJ7_fill_53178 12 = .ok (.iload_n 1, 1) := by decide +kernel
theorem dJ7_fill_53178_13 : decode cJ7_fill_53178 13 = .ok (.iastore, 1) := by decide +kernel
theorem dJ7_fill_53178_14 : decode cJ7_fill_53178 14 = .ok (.iinc 2 1, 3) := by decide +kernel
theorem dJ7_fill_53178_17 : decode cJ7_fill_53178 17 = .ok (.goto (-12), 3) := by decide +kernel
theorem dJ7_fill_53178_20 : decode cJ7_fill_53178 20 = .ok (.return_, 1) := by decide +kernel
def t_fill51 (σ : Hp) : Hp := (rA σ 51 (cpy (fun _ => (0 : Int32)) (gA σ 51) 8))
theorem k_fill51 (σ : Hp) : (t_fill51 σ).2.1 = σ.2.1 := by
  unfold t_fill51
  simp only [apply_ite Prod.snd, apply_ite (Prod.fst (α := Nat → Nat → Option Nat) (β := (Nat → Nat → Int32) × (Nat → Nat → Int64))), R_pI, R_pI, R_pA, R_pL, R_rA, ite_self]
theorem w_fill51 (d : Nat) (σ : Hp) : Cx yJ7_fill_53178 cJ7_fill_53178 4 none (d) 122 122 [.ref 51, .int 0] σ (fun o τ => o = .inl none ∧ τ = t_fill51 σ) := by
  refine Cx_of RJ7 false (by decide) rfl (fun q => by cases q) (Nat.le_refl _) rfl (Nat.le_of_ble_eq_true rfl) ?_
  refine Wx_iconst (v := 0) dJ7_fill_53178_0 (by decide) ?_
  refine Wx_istore2 dJ7_fill_53178_1 rfl (Nat.le_of_ble_eq_true rfl) ?_
  refine Wx_aload0 dJ7_fill_53178_2 ?_
  refine Wx_alen 8 dJ7_fill_53178_3 rfl (by decide) (Nat.le_of_ble_eq_true rfl) rfl ?_
  rw [show (Int32.ofNat 8) = 8 from rfl]
  refine Wx_istore3 dJ7_fill_53178_4 rfl (Nat.le_of_ble_eq_true rfl) ?_
  refine Wx_eq (show σ = (rA σ 51 (cpy (fun _ => (0 : Int32)) (gA σ 51) 0)) from rA_cpy0 σ 51 _) ?_
  refine Wx_count (fun k => [.ref 51, .int 0, .int (nI k), .int 8]) [] (fun k => (rA σ 51 (cpy (fun _ => (0 : Int32)) (gA σ 51) k))) 0 8 ?_ ?_ (by omega)
  · intro k hka hkb Kk
    refine Wx_iload2 dJ7_fill_53178_5 ?_
    refine Wx_iload3 dJ7_fill_53178_6 ?_
    refine Wx_icmp_ge 20 dJ7_fill_53178_7 (by decide) (fun h => absurd h (fun q => absurd ((cLe (a := 8) (b := k) rfl rfl (by omega) (by omega)).mp q) (by omega))) (fun _ => ?_)
    refine Wx_aload0 dJ7_fill_53178_10 ?_
    refine Wx_iload2 dJ7_fill_53178_11 ?_
    refine Wx_iload1 dJ7_fill_53178_12 ?_
    refine Wx_iastore 8 dJ7_fill_53178_13 rfl (Nat.le_of_ble_eq_true rfl) (vp_in_nI (show k < 8 by omega) (by decide)) ?_
    rw [show ((nI k) : Int32).toNatClampNeg = k from nI_clamp (by omega)]
    refine Wx_iinc2 dJ7_fill_53178_14 rfl (Nat.le_of_ble_eq_true rfl) ?_
    rw [show (((nI k) : Int32) + Int32.ofInt 1) = nI (k + 1) from addE (a := k) (b := 1) rfl rfl (by omega)]
    refine Wx_goto 5 dJ7_fill_53178_17 (by decide) ?_
    refine Wx_eq (show (pA (rA σ 51 (cpy (fun _ => (0 : Int32)) (gA σ 51) k)) 51 k 0) = (rA σ 51 (cpy (fun _ => (0 : Int32)) (gA σ 51) (k + 1))) from pA_cpy σ 51 k _ _ rfl) ?_
    exact Kk
  ·
    refine Wx_iload2 dJ7_fill_53178_5 ?_
    refine Wx_iload3 dJ7_fill_53178_6 ?_
    refine Wx_icmp_ge 20 dJ7_fill_53178_7 (by decide) (fun _ => ?_) (fun h => absurd ((cLe (a := 8) (b := 8) rfl rfl (by omega) (by omega)).mpr (by omega)) h)
    exact Wx_return dJ7_fill_53178_20 rfl rfl (⟨rfl, by rw [t_fill51]⟩)
def t_fill57 (σ : Hp) : Hp := (rA σ 57 (cpy (fun _ => (0 : Int32)) (gA σ 57) 1920))
theorem k_fill57 (σ : Hp) : (t_fill57 σ).2.1 = σ.2.1 := by
  unfold t_fill57
  simp only [apply_ite Prod.snd, apply_ite (Prod.fst (α := Nat → Nat → Option Nat) (β := (Nat → Nat → Int32) × (Nat → Nat → Int64))), R_pI, R_pI, R_pA, R_pL, R_rA, ite_self]
theorem w_fill57 (d : Nat) (σ : Hp) : Cx yJ7_fill_53178 cJ7_fill_53178 4 none (d) 122 122 [.ref 57, .int 0] σ (fun o τ => o = .inl none ∧ τ = t_fill57 σ) := by
  refine Cx_of RJ7 false (by decide) rfl (fun q => by cases q) (Nat.le_refl _) rfl (Nat.le_of_ble_eq_true rfl) ?_
  refine Wx_iconst (v := 0) dJ7_fill_53178_0 (by decide) ?_
  refine Wx_istore2 dJ7_fill_53178_1 rfl (Nat.le_of_ble_eq_true rfl) ?_
  refine Wx_aload0 dJ7_fill_53178_2 ?_
  refine Wx_alen 1920 dJ7_fill_53178_3 rfl (by decide) (Nat.le_of_ble_eq_true rfl) rfl ?_
  rw [show (Int32.ofNat 1920) = 1920 from rfl]
  refine Wx_istore3 dJ7_fill_53178_4 rfl (Nat.le_of_ble_eq_true rfl) ?_
  refine Wx_eq (show σ = (rA σ 57 (cpy (fun _ => (0 : Int32)) (gA σ 57) 0)) from rA_cpy0 σ 57 _) ?_
  refine Wx_count (fun k => [.ref 57, .int 0, .int (nI k), .int 1920]) [] (fun k => (rA σ 57 (cpy (fun _ => (0 : Int32)) (gA σ 57) k))) 0 1920 ?_ ?_ (by omega)
  · intro k hka hkb Kk
    refine Wx_iload2 dJ7_fill_53178_5 ?_
    refine Wx_iload3 dJ7_fill_53178_6 ?_
    refine Wx_icmp_ge 20 dJ7_fill_53178_7 (by decide) (fun h => absurd h (fun q => absurd ((cLe (a := 1920) (b := k) rfl rfl (by omega) (by omega)).mp q) (by omega))) (fun _ => ?_)
    refine Wx_aload0 dJ7_fill_53178_10 ?_
    refine Wx_iload2 dJ7_fill_53178_11 ?_
    refine Wx_iload1 dJ7_fill_53178_12 ?_
    refine Wx_iastore 1920 dJ7_fill_53178_13 rfl (Nat.le_of_ble_eq_true rfl) (vp_in_nI (show k < 1920 by omega) (by decide)) ?_
    rw [show ((nI k) : Int32).toNatClampNeg = k from nI_clamp (by omega)]
    refine Wx_iinc2 dJ7_fill_53178_14 rfl (Nat.le_of_ble_eq_true rfl) ?_
    rw [show (((nI k) : Int32) + Int32.ofInt 1) = nI (k + 1) from addE (a := k) (b := 1) rfl rfl (by omega)]
    refine Wx_goto 5 dJ7_fill_53178_17 (by decide) ?_
    refine Wx_eq (show (pA (rA σ 57 (cpy (fun _ => (0 : Int32)) (gA σ 57) k)) 57 k 0) = (rA σ 57 (cpy (fun _ => (0 : Int32)) (gA σ 57) (k + 1))) from pA_cpy σ 57 k _ _ rfl) ?_
    exact Kk
  ·
    refine Wx_iload2 dJ7_fill_53178_5 ?_
    refine Wx_iload3 dJ7_fill_53178_6 ?_
    refine Wx_icmp_ge 20 dJ7_fill_53178_7 (by decide) (fun _ => ?_) (fun h => absurd ((cLe (a := 1920) (b := 1920) rfl rfl (by omega) (by omega)).mpr (by omega)) h)
    exact Wx_return dJ7_fill_53178_20 rfl rfl (⟨rfl, by rw [t_fill57]⟩)
def t_fill58 (σ : Hp) : Hp := (rA σ 58 (cpy (fun _ => (0 : Int32)) (gA σ 58) 1920))
theorem k_fill58 (σ : Hp) : (t_fill58 σ).2.1 = σ.2.1 := by
  unfold t_fill58
  simp only [apply_ite Prod.snd, apply_ite (Prod.fst (α := Nat → Nat → Option Nat) (β := (Nat → Nat → Int32) × (Nat → Nat → Int64))), R_pI, R_pI, R_pA, R_pL, R_rA, ite_self]
theorem w_fill58 (d : Nat) (σ : Hp) : Cx yJ7_fill_53178 cJ7_fill_53178 4 none (d) 122 122 [.ref 58, .int 0] σ (fun o τ => o = .inl none ∧ τ = t_fill58 σ) := by
  refine Cx_of RJ7 false (by decide) rfl (fun q => by cases q) (Nat.le_refl _) rfl (Nat.le_of_ble_eq_true rfl) ?_
  refine Wx_iconst (v := 0) dJ7_fill_53178_0 (by decide) ?_
  refine Wx_istore2 dJ7_fill_53178_1 rfl (Nat.le_of_ble_eq_true rfl) ?_
  refine Wx_aload0 dJ7_fill_53178_2 ?_
  refine Wx_alen 1920 dJ7_fill_53178_3 rfl (by decide) (Nat.le_of_ble_eq_true rfl) rfl ?_
  rw [show (Int32.ofNat 1920) = 1920 from rfl]
  refine Wx_istore3 dJ7_fill_53178_4 rfl (Nat.le_of_ble_eq_true rfl) ?_
  refine Wx_eq (show σ = (rA σ 58 (cpy (fun _ => (0 : Int32)) (gA σ 58) 0)) from rA_cpy0 σ 58 _) ?_
  refine Wx_count (fun k => [.ref 58, .int 0, .int (nI k), .int 1920]) [] (fun k => (rA σ 58 (cpy (fun _ => (0 : Int32)) (gA σ 58) k))) 0 1920 ?_ ?_ (by omega)
  · intro k hka hkb Kk
    refine Wx_iload2 dJ7_fill_53178_5 ?_
    refine Wx_iload3 dJ7_fill_53178_6 ?_
    refine Wx_icmp_ge 20 dJ7_fill_53178_7 (by decide) (fun h => absurd h (fun q => absurd ((cLe (a := 1920) (b := k) rfl rfl (by omega) (by omega)).mp q) (by omega))) (fun _ => ?_)
    refine Wx_aload0 dJ7_fill_53178_10 ?_
    refine Wx_iload2 dJ7_fill_53178_11 ?_
    refine Wx_iload1 dJ7_fill_53178_12 ?_
    refine Wx_iastore 1920 dJ7_fill_53178_13 rfl (Nat.le_of_ble_eq_true rfl) (vp_in_nI (show k < 1920 by omega) (by decide)) ?_
    rw [show ((nI k) : Int32).toNatClampNeg = k from nI_clamp (by omega)]
    refine Wx_iinc2 dJ7_fill_53178_14 rfl (Nat.le_of_ble_eq_true rfl) ?_
    rw [show (((nI k) : Int32) + Int32.ofInt 1) = nI (k + 1) from addE (a := k) (b := 1) rfl rfl (by omega)]
    refine Wx_goto 5 dJ7_fill_53178_17 (by decide) ?_
    refine Wx_eq (show (pA (rA σ 58 (cpy (fun _ => (0 : Int32)) (gA σ 58) k)) 58 k 0) = (rA σ 58 (cpy (fun _ => (0 : Int32)) (gA σ 58) (k + 1))) from pA_cpy σ 58 k _ _ rfl) ?_
    exact Kk
  ·
    refine Wx_iload2 dJ7_fill_53178_5 ?_
    refine Wx_iload3 dJ7_fill_53178_6 ?_
    refine Wx_icmp_ge 20 dJ7_fill_53178_7 (by decide) (fun _ => ?_) (fun h => absurd ((cLe (a := 1920) (b := 1920) rfl rfl (by omega) (by omega)).mpr (by omega)) h)
    exact Wx_return dJ7_fill_53178_20 rfl rfl (⟨rfl, by rw [t_fill58]⟩)
def t_fill59 (σ : Hp) : Hp := (rA σ 59 (cpy (fun _ => ((-1) : Int32)) (gA σ 59) 8))
theorem k_fill59 (σ : Hp) : (t_fill59 σ).2.1 = σ.2.1 := by
  unfold t_fill59
  simp only [apply_ite Prod.snd, apply_ite (Prod.fst (α := Nat → Nat → Option Nat) (β := (Nat → Nat → Int32) × (Nat → Nat → Int64))), R_pI, R_pI, R_pA, R_pL, R_rA, ite_self]
theorem w_fill59 (d : Nat) (σ : Hp) : Cx yJ7_fill_53178 cJ7_fill_53178 4 none (d) 122 122 [.ref 59, .int (-1)] σ (fun o τ => o = .inl none ∧ τ = t_fill59 σ) := by
  refine Cx_of RJ7 false (by decide) rfl (fun q => by cases q) (Nat.le_refl _) rfl (Nat.le_of_ble_eq_true rfl) ?_
  refine Wx_iconst (v := 0) dJ7_fill_53178_0 (by decide) ?_
  refine Wx_istore2 dJ7_fill_53178_1 rfl (Nat.le_of_ble_eq_true rfl) ?_
  refine Wx_aload0 dJ7_fill_53178_2 ?_
  refine Wx_alen 8 dJ7_fill_53178_3 rfl (by decide) (Nat.le_of_ble_eq_true rfl) rfl ?_
  rw [show (Int32.ofNat 8) = 8 from rfl]
  refine Wx_istore3 dJ7_fill_53178_4 rfl (Nat.le_of_ble_eq_true rfl) ?_
  refine Wx_eq (show σ = (rA σ 59 (cpy (fun _ => ((-1) : Int32)) (gA σ 59) 0)) from rA_cpy0 σ 59 _) ?_
  refine Wx_count (fun k => [.ref 59, .int (-1), .int (nI k), .int 8]) [] (fun k => (rA σ 59 (cpy (fun _ => ((-1) : Int32)) (gA σ 59) k))) 0 8 ?_ ?_ (by omega)
  · intro k hka hkb Kk
    refine Wx_iload2 dJ7_fill_53178_5 ?_
    refine Wx_iload3 dJ7_fill_53178_6 ?_
    refine Wx_icmp_ge 20 dJ7_fill_53178_7 (by decide) (fun h => absurd h (fun q => absurd ((cLe (a := 8) (b := k) rfl rfl (by omega) (by omega)).mp q) (by omega))) (fun _ => ?_)
    refine Wx_aload0 dJ7_fill_53178_10 ?_
    refine Wx_iload2 dJ7_fill_53178_11 ?_
    refine Wx_iload1 dJ7_fill_53178_12 ?_
    refine Wx_iastore 8 dJ7_fill_53178_13 rfl (Nat.le_of_ble_eq_true rfl) (vp_in_nI (show k < 8 by omega) (by decide)) ?_
    rw [show ((nI k) : Int32).toNatClampNeg = k from nI_clamp (by omega)]
    refine Wx_iinc2 dJ7_fill_53178_14 rfl (Nat.le_of_ble_eq_true rfl) ?_
    rw [show (((nI k) : Int32) + Int32.ofInt 1) = nI (k + 1) from addE (a := k) (b := 1) rfl rfl (by omega)]
    refine Wx_goto 5 dJ7_fill_53178_17 (by decide) ?_
    refine Wx_eq (show (pA (rA σ 59 (cpy (fun _ => ((-1) : Int32)) (gA σ 59) k)) 59 k (-1)) = (rA σ 59 (cpy (fun _ => ((-1) : Int32)) (gA σ 59) (k + 1))) from pA_cpy σ 59 k _ _ rfl) ?_
    exact Kk
  ·
    refine Wx_iload2 dJ7_fill_53178_5 ?_
    refine Wx_iload3 dJ7_fill_53178_6 ?_
    refine Wx_icmp_ge 20 dJ7_fill_53178_7 (by decide) (fun _ => ?_) (fun h => absurd ((cLe (a := 8) (b := 8) rfl rfl (by omega) (by omega)).mpr (by omega)) h)
    exact Wx_return dJ7_fill_53178_20 rfl rfl (⟨rfl, by rw [t_fill59]⟩)
theorem dJ7_fill_031fb_0 : decode cJ7_fill_031fb 0 = .ok (.iconst 0, 1) := by decide +kernel
theorem dJ7_fill_031fb_1 : decode cJ7_fill_031fb 1 = .ok (.istore_n 2, 1) := by decide +kernel
theorem dJ7_fill_031fb_2 : decode cJ7_fill_031fb 2 = .ok (.aload_n 0, 1) := by decide +kernel
theorem dJ7_fill_031fb_3 : decode cJ7_fill_031fb 3 = .ok (.arraylength, 1) := by decide +kernel
theorem dJ7_fill_031fb_4 : decode cJ7_fill_031fb 4 = .ok (.istore_n 3, 1) := by decide +kernel
theorem dJ7_fill_031fb_5 : decode cJ7_fill_031fb 5 = .ok (.iload_n 2, 1) := by decide +kernel
theorem dJ7_fill_031fb_6 : decode cJ7_fill_031fb 6 = .ok (.iload_n 3, 1) := by decide +kernel
theorem dJ7_fill_031fb_7 : decode cJ7_fill_031fb 7 = .ok (.if_icmp .ge 13, 3) := by decide +kernel
theorem dJ7_fill_031fb_10 : decode cJ7_fill_031fb 10 = .ok (.aload_n 0, 1) := by decide +kernel
theorem dJ7_fill_031fb_11 : decode cJ7_fill_031fb 11 = .ok (.iload_n 2, 1) := by decide +kernel
theorem dJ7_fill_031fb_12 : decode cJ7_fill_031fb 12 = .ok (.iload_n 1, 1) := by decide +kernel
theorem dJ7_fill_031fb_13 : decode cJ7_fill_031fb 13 = .ok (.bastore, 1) := by decide +kernel
theorem dJ7_fill_031fb_14 : decode cJ7_fill_031fb 14 = .ok (.iinc 2 1, 3) := by decide +kernel
theorem dJ7_fill_031fb_17 : decode cJ7_fill_031fb 17 = .ok (.goto (-12), 3) := by decide +kernel
theorem dJ7_fill_031fb_20 : decode cJ7_fill_031fb 20 = .ok (.return_, 1) := by decide +kernel
def t_fill54 (σ : Hp) : Hp := (rA σ 54 (cpy (fun _ => (0 : Int32).toInt8.toInt32) (gA σ 54) 65536))
theorem k_fill54 (σ : Hp) : (t_fill54 σ).2.1 = σ.2.1 := by
  unfold t_fill54
  simp only [apply_ite Prod.snd, apply_ite (Prod.fst (α := Nat → Nat → Option Nat) (β := (Nat → Nat → Int32) × (Nat → Nat → Int64))), R_pI, R_pI, R_pA, R_pL, R_rA, ite_self]
theorem w_fill54 (d : Nat) (σ : Hp) : Cx yJ7_fill_031fb cJ7_fill_031fb 4 none (d) 122 122 [.ref 54, .int 0] σ (fun o τ => o = .inl none ∧ τ = t_fill54 σ) := by
  refine Cx_of RJ7 false (by decide) rfl (fun q => by cases q) (Nat.le_refl _) rfl (Nat.le_of_ble_eq_true rfl) ?_
  refine Wx_iconst (v := 0) dJ7_fill_031fb_0 (by decide) ?_
  refine Wx_istore2 dJ7_fill_031fb_1 rfl (Nat.le_of_ble_eq_true rfl) ?_
  refine Wx_aload0 dJ7_fill_031fb_2 ?_
  refine Wx_alen 65536 dJ7_fill_031fb_3 rfl (by decide) (Nat.le_of_ble_eq_true rfl) rfl ?_
  rw [show (Int32.ofNat 65536) = 65536 from rfl]
  refine Wx_istore3 dJ7_fill_031fb_4 rfl (Nat.le_of_ble_eq_true rfl) ?_
  refine Wx_eq (show σ = (rA σ 54 (cpy (fun _ => (0 : Int32).toInt8.toInt32) (gA σ 54) 0)) from rA_cpy0 σ 54 _) ?_
  refine Wx_count (fun k => [.ref 54, .int 0, .int (nI k), .int 65536]) [] (fun k => (rA σ 54 (cpy (fun _ => (0 : Int32).toInt8.toInt32) (gA σ 54) k))) 0 65536 ?_ ?_ (by omega)
  · intro k hka hkb Kk
    refine Wx_iload2 dJ7_fill_031fb_5 ?_
    refine Wx_iload3 dJ7_fill_031fb_6 ?_
    refine Wx_icmp_ge 20 dJ7_fill_031fb_7 (by decide) (fun h => absurd h (fun q => absurd ((cLe (a := 65536) (b := k) rfl rfl (by omega) (by omega)).mp q) (by omega))) (fun _ => ?_)
    refine Wx_aload0 dJ7_fill_031fb_10 ?_
    refine Wx_iload2 dJ7_fill_031fb_11 ?_
    refine Wx_iload1 dJ7_fill_031fb_12 ?_
    refine Wx_bastore 65536 dJ7_fill_031fb_13 rfl (Nat.le_of_ble_eq_true rfl) (vp_in_nI (show k < 65536 by omega) (by decide)) ?_
    rw [show ((nI k) : Int32).toNatClampNeg = k from nI_clamp (by omega)]
    refine Wx_iinc2 dJ7_fill_031fb_14 rfl (Nat.le_of_ble_eq_true rfl) ?_
    rw [show (((nI k) : Int32) + Int32.ofInt 1) = nI (k + 1) from addE (a := k) (b := 1) rfl rfl (by omega)]
    refine Wx_goto 5 dJ7_fill_031fb_17 (by decide) ?_
    refine Wx_eq (show (pA (rA σ 54 (cpy (fun _ => (0 : Int32).toInt8.toInt32) (gA σ 54) k)) 54 k (0 : Int32).toInt8.toInt32) = (rA σ 54 (cpy (fun _ => (0 : Int32).toInt8.toInt32) (gA σ 54) (k + 1))) from pA_cpy σ 54 k _ _ rfl) ?_
    exact Kk
  ·
    refine Wx_iload2 dJ7_fill_031fb_5 ?_
    refine Wx_iload3 dJ7_fill_031fb_6 ?_
    refine Wx_icmp_ge 20 dJ7_fill_031fb_7 (by decide) (fun _ => ?_) (fun h => absurd ((cLe (a := 65536) (b := 65536) rfl rfl (by omega) (by omega)).mpr (by omega)) h)
    exact Wx_return dJ7_fill_031fb_20 rfl rfl (⟨rfl, by rw [t_fill54]⟩)
theorem dX7_clearData_0 : decode cX7_clearData 0 = .ok (.aload_n 0, 1) := by decide +kernel
theorem dX7_clearData_1 : decode cX7_clearData 1 = .ok (.getfield 34, 3) := by decide +kernel
theorem dX7_clearData_4 : decode cX7_clearData 4 = .ok (.iconst 0, 1) := by decide +kernel
theorem dX7_clearData_5 : decode cX7_clearData 5 = .ok (.invokestatic 73, 3) := by decide +kernel
theorem dX7_clearData_8 : decode cX7_clearData 8 = .ok (.return_, 1) := by decide +kernel
def t_clear (σ : Hp) : Hp := (t_fill54 σ)
theorem k_clear (σ : Hp) : (t_clear σ).2.1 = σ.2.1 := by
  unfold t_clear
  simp only [apply_ite Prod.snd, apply_ite (Prod.fst (α := Nat → Nat → Option Nat) (β := (Nat → Nat → Int32) × (Nat → Nat → Int64))), k_fill54, R_pI, R_pA, R_pL, R_rA, ite_self]
theorem w_clear (d : Nat) (σ : Hp) (hR : Rf σ) : Cx yX7_clearData cX7_clearData 1 none (d + 1) 122 122 [.ref 50] σ (fun o τ => o = .inl none ∧ τ = t_clear σ) := by
  refine Cx_of RX7 false (by decide) rfl (fun q => by cases q) (Nat.le_refl _) rfl (Nat.le_of_ble_eq_true rfl) ?_
  refine Wx_aload0 dX7_clearData_0 ?_
  refine Wx_getR 7 4 54 dX7_clearData_1 f_X7_34 rfl (Nat.le_of_ble_eq_true rfl) rfl (hR 50 4 54 (by decide)) ?_
  refine Wx_iconst (v := 0) dX7_clearData_4 (by decide) ?_
  have c1 := (w_fill54 (d + 0) σ)
  refine Wx_cSv [.ref 54, .int 0] 2 m_J7_fill_031fb l_X7_73 s_J7_fill_031fb dX7_clearData_5 c1 (show _ ≤ d + 1 from Nat.le_refl _) (Nat.le_refl _) rfl (Nat.le_of_ble_eq_true rfl) rfl ?_
  clear c1
  exact Wx_return dX7_clearData_8 rfl rfl (⟨rfl, by rw [t_clear]⟩)
theorem dX7_fillData_0 : decode cX7_fillData 0 = .ok (.aload_n 1, 1) := by decide +kernel
theorem dX7_fillData_1 : decode cX7_fillData 1 = .ok (.iconst 0, 1) := by decide +kernel
theorem dX7_fillData_2 : decode cX7_fillData 2 = .ok (.aload_n 0, 1) := by decide +kernel
theorem dX7_fillData_3 : decode cX7_fillData 3 = .ok (.getfield 34, 3) := by decide +kernel
theorem dX7_fillData_6 : decode cX7_fillData 6 = .ok (.iconst 0, 1) := by decide +kernel
theorem dX7_fillData_7 : decode cX7_fillData 7 = .ok (.iload_n 2, 1) := by decide +kernel
theorem dX7_fillData_8 : decode cX7_fillData 8 = .ok (.invokestatic 67, 3) := by decide +kernel
theorem dX7_fillData_11 : decode cX7_fillData 11 = .ok (.aload_n 0, 1) := by decide +kernel
theorem dX7_fillData_12 : decode cX7_fillData 12 = .ok (.sipush 8192, 3) := by decide +kernel
theorem dX7_fillData_15 : decode cX7_fillData 15 = .ok (.iload_n 2, 1) := by decide +kernel
theorem dX7_fillData_16 : decode cX7_fillData 16 = .ok (.invokevirtual 79, 3) := by decide +kernel
theorem dX7_fillData_19 : decode cX7_fillData 19 = .ok (.return_, 1) := by decide +kernel
def t_fillData (σ : Hp) (u : Nat) : Hp := (t_wW (rA σ 54 (va_cpy (gA σ 2) (gA σ 54) 0 0 u)) (8192) ((nI u)))
theorem k_fillData (σ : Hp) (u : Nat) : (t_fillData σ u).2.1 = σ.2.1 := by
  unfold t_fillData
  simp only [apply_ite Prod.snd, apply_ite (Prod.fst (α := Nat → Nat → Option Nat) (β := (Nat → Nat → Int32) × (Nat → Nat → Int64))), k_wW, R_pI, R_pA, R_pL, R_rA, ite_self]
theorem w_fillData (d : Nat) (σ : Hp) (u : Nat) (hR : Rf σ) (hu : u ≤ 4000) (hB : ∀ k, k < 4000 → fits (tyA 0) (.int (gA σ 2 k)) = true) : Cx yX7_fillData cX7_fillData 3 none (d + 1) 122 122 [.ref 50, .ref 2, .int (nI u)] σ (fun o τ => o = .inl none ∧ τ = t_fillData σ u) := by
  refine Cx_of RX7 false (by decide) rfl (fun q => by cases q) (Nat.le_refl _) rfl (Nat.le_of_ble_eq_true rfl) ?_
  refine Wx_aload1 dX7_fillData_0 ?_
  refine Wx_iconst (v := 0) dX7_fillData_1 (by decide) ?_
  refine Wx_aload0 dX7_fillData_2 ?_
  refine Wx_getR 7 4 54 dX7_fillData_3 f_X7_34 rfl (Nat.le_of_ble_eq_true rfl) rfl (hR 50 4 54 (by decide)) ?_
  refine Wx_iconst (v := 0) dX7_fillData_6 (by decide) ?_
  refine Wx_iload2 dX7_fillData_7 ?_
  refine Wx_acopy 0 4000 65536 0 0 u dX7_fillData_8 (YTb_7_ok (67, 7) (by decide)) rfl rfl (by decide) (Nat.le_of_ble_eq_true rfl) (Nat.le_of_ble_eq_true rfl) (by omega) (by omega) (by omega) (by omega) (by omega) (Nat.le_of_ble_eq_true rfl) (show 1 ≤ d + 1 by omega) (fun j hj => hB (0 + j) (by omega)) ?_
  refine Wx_aload0 dX7_fillData_11 ?_
  refine Wx_sipush (v := 8192) dX7_fillData_12 (by decide) ?_
  refine Wx_iload2 dX7_fillData_15 ?_
  have c1 := (w_wW (d + 0) (rA σ 54 (va_cpy (gA σ 2) (gA σ 54) 0 0 u)) (8192) ((nI u)) (Rf_rA hR) (by omega))
  refine Wx_cVv 50 7 [.int 8192, .int (nI u)] 2 m_X7_writeWord l_X7_79 i_X7_writeWord rfl rfl (show 50 < 122 by decide) dX7_fillData_16 c1 (show _ ≤ d + 1 from Nat.le_refl _) (Nat.le_refl _) rfl (Nat.le_of_ble_eq_true rfl) rfl ?_
  clear c1
  exact Wx_return dX7_fillData_19 rfl rfl (⟨rfl, by rw [t_fillData]⟩)
theorem dX7_fillSets_0 : decode cX7_fillSets 0 = .ok (.iconst 0, 1) := by decide +kernel
theorem dX7_fillSets_1 : decode cX7_fillSets 1 = .ok (.istore_n 3, 1) := by decide +kernel
theorem dX7_fillSets_2 : decode cX7_fillSets 2 = .ok (.iload_n 3, 1) := by decide +kernel
theorem dX7_fillSets_3 : decode cX7_fillSets 3 = .ok (.bipush 8, 2) := by decide +kernel
theorem dX7_fillSets_5 : decode cX7_fillSets 5 = .ok (.iload_n 2, 1) := by decide +kernel
theorem dX7_fillSets_6 : decode cX7_fillSets 6 = .ok (.imul, 1) := by decide +kernel
theorem dX7_fillSets_7 : decode cX7_fillSets 7 = .ok (.if_icmp .ge 29, 3) := by decide +kernel
theorem dX7_fillSets_10 : decode cX7_fillSets 10 = .ok (.iload_n 3, 1) := by decide +kernel
theorem dX7_fillSets_11 : decode cX7_fillSets 11 = .ok (.aload_n 1, 1) := by decide +kernel
theorem dX7_fillSets_12 : decode cX7_fillSets 12 = .ok (.arraylength, 1) := by decide +kernel
theorem dX7_fillSets_13 : decode cX7_fillSets 13 = .ok (.if_icmp .ge 23, 3) := by decide +kernel
theorem dX7_fillSets_16 : decode cX7_fillSets 16 = .ok (.aload_n 0, 1) := by decide +kernel
theorem dX7_fillSets_17 : decode cX7_fillSets 17 = .ok (.sipush 4096, 3) := by decide +kernel
theorem dX7_fillSets_20 : decode cX7_fillSets 20 = .ok (.iconst 4, 1) := by decide +kernel
theorem dX7_fillSets_21 : decode cX7_fillSets 21 = .ok (.iload_n 3, 1) := by decide +kernel
theorem dX7_fillSets_22 : decode cX7_fillSets 22 = .ok (.imul, 1) := by decide +kernel
theorem dX7_fillSets_23 : decode cX7_fillSets 23 = .ok (.iadd, 1) := by decide +kernel
theorem dX7_fillSets_24 : decode cX7_fillSets 24 = .ok (.aload_n 1, 1) := by decide +kernel
theorem dX7_fillSets_25 : decode cX7_fillSets 25 = .ok (.iload_n 3, 1) := by decide +kernel
theorem dX7_fillSets_26 : decode cX7_fillSets 26 = .ok (.iaload, 1) := by decide +kernel
theorem dX7_fillSets_27 : decode cX7_fillSets 27 = .ok (.invokevirtual 79, 3) := by decide +kernel
theorem dX7_fillSets_30 : decode cX7_fillSets 30 = .ok (.iinc 3 1, 3) := by decide +kernel
theorem dX7_fillSets_33 : decode cX7_fillSets 33 = .ok (.goto (-31), 3) := by decide +kernel
theorem dX7_fillSets_36 : decode cX7_fillSets 36 = .ok (.return_, 1) := by decide +kernel
def t_fillSets_21 (σ : Hp) (s : Nat) : Hp := (rA σ 54 (wrS (gA σ 54) (gA σ 26) (8 * s)))
theorem k_fillSets_21 (σ : Hp) (s : Nat) : (t_fillSets_21 σ s).2.1 = σ.2.1 := by
  unfold t_fillSets_21
  simp only [apply_ite Prod.snd, apply_ite (Prod.fst (α := Nat → Nat → Option Nat) (β := (Nat → Nat → Int32) × (Nat → Nat → Int64))), k_wW, R_pI, R_pA, R_pL, R_rA, ite_self]
theorem w_fillSets_21 (d : Nat) (σ : Hp) (s : Nat) (hR : Rf σ) (hs : s ≤ 128) : Cx yX7_fillSets cX7_fillSets 4 none (d + 1) 122 122 [.ref 50, .ref 26, .int (nI s)] σ (fun o τ => o = .inl none ∧ τ = t_fillSets_21 σ s) := by
  refine Cx_of RX7 false (by decide) rfl (fun q => by cases q) (Nat.le_refl _) rfl (Nat.le_of_ble_eq_true rfl) ?_
  refine Wx_iconst (v := 0) dX7_fillSets_0 (by decide) ?_
  refine Wx_istore3 dX7_fillSets_1 rfl (Nat.le_of_ble_eq_true rfl) ?_
  refine Wx_eq (show σ = (rA σ 54 (wrS (gA σ 54) (gA σ 26) 0)) from rA_wrS0 σ 54 _) ?_
  refine Wx_count (fun k => [.ref 50, .ref 26, .int (nI s), .int (nI k)]) [] (fun k => (rA σ 54 (wrS (gA σ 54) (gA σ 26) k))) 0 (8 * s) ?_ ?_ (by omega)
  · intro k hka hkb Kk
    refine Wx_iload3 dX7_fillSets_2 ?_
    refine Wx_bipush (v := 8) dX7_fillSets_3 (by decide) ?_
    refine Wx_iload2 dX7_fillSets_5 ?_
    refine Wx_imul dX7_fillSets_6 ?_
    rw [show ((8 * (nI s)) : Int32) = nI (8 * s) from mulN rfl rfl]
    refine Wx_icmp_ge 36 dX7_fillSets_7 (by decide) (fun h => absurd h (fun q => absurd ((cLe (a := (8 * s)) (b := k) rfl rfl (by omega) (by omega)).mp q) (by omega))) (fun _ => ?_)
    refine Wx_iload3 dX7_fillSets_10 ?_
    refine Wx_aload1 dX7_fillSets_11 ?_
    refine Wx_alen 1024 dX7_fillSets_12 rfl (by decide) (Nat.le_of_ble_eq_true rfl) rfl ?_
    rw [show (Int32.ofNat 1024) = 1024 from rfl]
    refine Wx_icmp_ge 36 dX7_fillSets_13 (by decide) (fun h => absurd h (fun q => absurd ((cLe (a := 1024) (b := k) rfl rfl (by omega) (by omega)).mp q) (by omega))) (fun _ => ?_)
    refine Wx_aload0 dX7_fillSets_16 ?_
    refine Wx_sipush (v := 4096) dX7_fillSets_17 (by decide) ?_
    refine Wx_iconst (v := 4) dX7_fillSets_20 (by decide) ?_
    refine Wx_iload3 dX7_fillSets_21 ?_
    refine Wx_imul dX7_fillSets_22 ?_
    rw [show ((4 * (nI k)) : Int32) = nI (4 * k) from mulN rfl rfl]
    refine Wx_iadd dX7_fillSets_23 ?_
    rw [show ((4096 + (nI (4 * k))) : Int32) = nI ((4 * k) + 4096) from addE (a := 4096) (b := (4 * k)) rfl rfl (by omega)]
    refine Wx_aload1 dX7_fillSets_24 ?_
    refine Wx_iload3 dX7_fillSets_25 ?_
    refine Wx_iaload 1024 dX7_fillSets_26 rfl (Nat.le_of_ble_eq_true rfl) (vp_in_nI (show k < 1024 by omega) (by decide)) ?_
    rw [show ((nI k) : Int32).toNatClampNeg = k from nI_clamp (by omega)]
    have c3 := (w_wW (d + 0) (rA σ 54 (wrS (gA σ 54) (gA σ 26) k)) (((4 * k) + 4096)) ((gA (rA σ 54 (wrS (gA σ 54) (gA σ 26) k)) 26 k)) (Rf_rA hR) (by omega))
    refine Wx_cVv 50 7 [.int (nI ((4 * k) + 4096)), .int (gA (rA σ 54 (wrS (gA σ 54) (gA σ 26) k)) 26 k)] 2 m_X7_writeWord l_X7_79 i_X7_writeWord rfl rfl (show 50 < 122 by decide) dX7_fillSets_27 c3 (show _ ≤ d + 1 from Nat.le_refl _) (Nat.le_refl _) rfl (Nat.le_of_ble_eq_true rfl) rfl ?_
    clear c3
    refine Wx_iinc3 dX7_fillSets_30 rfl (Nat.le_of_ble_eq_true rfl) ?_
    rw [show (((nI k) : Int32) + Int32.ofInt 1) = nI (k + 1) from addE (a := k) (b := 1) rfl rfl (by omega)]
    refine Wx_goto 2 dX7_fillSets_33 (by decide) ?_
    refine Wx_eq (show (t_wW (rA σ 54 (wrS (gA σ 54) (gA σ 26) k)) (((4 * k) + 4096)) ((gA (rA σ 54 (wrS (gA σ 54) (gA σ 26) k)) 26 k))) = (rA σ 54 (wrS (gA σ 54) (gA σ 26) (k + 1))) from wrS_step σ 26 _ k rfl rfl) ?_
    exact Kk
  ·
    refine Wx_iload3 dX7_fillSets_2 ?_
    refine Wx_bipush (v := 8) dX7_fillSets_3 (by decide) ?_
    refine Wx_iload2 dX7_fillSets_5 ?_
    refine Wx_imul dX7_fillSets_6 ?_
    rw [show ((8 * (nI s)) : Int32) = nI (8 * s) from mulN rfl rfl]
    refine Wx_icmp_ge 36 dX7_fillSets_7 (by decide) (fun _ => ?_) (fun h => absurd ((cLe (a := (8 * s)) (b := (8 * s)) rfl rfl (by omega) (by omega)).mpr (by omega)) h)
    exact Wx_return dX7_fillSets_36 rfl rfl (⟨rfl, by rw [t_fillSets_21]⟩)
def t_fillSets_30 (σ : Hp) (s : Nat) : Hp := (rA σ 54 (wrS (gA σ 54) (gA σ 35) (8 * s)))
theorem k_fillSets_30 (σ : Hp) (s : Nat) : (t_fillSets_30 σ s).2.1 = σ.2.1 := by
  unfold t_fillSets_30
  simp only [apply_ite Prod.snd, apply_ite (Prod.fst (α := Nat → Nat → Option Nat) (β := (Nat → Nat → Int32) × (Nat → Nat → Int64))), k_wW, R_pI, R_pA, R_pL, R_rA, ite_self]
theorem w_fillSets_30 (d : Nat) (σ : Hp) (s : Nat) (hR : Rf σ) (hs : s ≤ 128) : Cx yX7_fillSets cX7_fillSets 4 none (d + 1) 122 122 [.ref 50, .ref 35, .int (nI s)] σ (fun o τ => o = .inl none ∧ τ = t_fillSets_30 σ s) := by
  refine Cx_of RX7 false (by decide) rfl (fun q => by cases q) (Nat.le_refl _) rfl (Nat.le_of_ble_eq_true rfl) ?_
  refine Wx_iconst (v := 0) dX7_fillSets_0 (by decide) ?_
  refine Wx_istore3 dX7_fillSets_1 rfl (Nat.le_of_ble_eq_true rfl) ?_
  refine Wx_eq (show σ = (rA σ 54 (wrS (gA σ 54) (gA σ 35) 0)) from rA_wrS0 σ 54 _) ?_
  refine Wx_count (fun k => [.ref 50, .ref 35, .int (nI s), .int (nI k)]) [] (fun k => (rA σ 54 (wrS (gA σ 54) (gA σ 35) k))) 0 (8 * s) ?_ ?_ (by omega)
  · intro k hka hkb Kk
    refine Wx_iload3 dX7_fillSets_2 ?_
    refine Wx_bipush (v := 8) dX7_fillSets_3 (by decide) ?_
    refine Wx_iload2 dX7_fillSets_5 ?_
    refine Wx_imul dX7_fillSets_6 ?_
    rw [show ((8 * (nI s)) : Int32) = nI (8 * s) from mulN rfl rfl]
    refine Wx_icmp_ge 36 dX7_fillSets_7 (by decide) (fun h => absurd h (fun q => absurd ((cLe (a := (8 * s)) (b := k) rfl rfl (by omega) (by omega)).mp q) (by omega))) (fun _ => ?_)
    refine Wx_iload3 dX7_fillSets_10 ?_
    refine Wx_aload1 dX7_fillSets_11 ?_
    refine Wx_alen 1024 dX7_fillSets_12 rfl (by decide) (Nat.le_of_ble_eq_true rfl) rfl ?_
    rw [show (Int32.ofNat 1024) = 1024 from rfl]
    refine Wx_icmp_ge 36 dX7_fillSets_13 (by decide) (fun h => absurd h (fun q => absurd ((cLe (a := 1024) (b := k) rfl rfl (by omega) (by omega)).mp q) (by omega))) (fun _ => ?_)
    refine Wx_aload0 dX7_fillSets_16 ?_
    refine Wx_sipush (v := 4096) dX7_fillSets_17 (by decide) ?_
    refine Wx_iconst (v := 4) dX7_fillSets_20 (by decide) ?_
    refine Wx_iload3 dX7_fillSets_21 ?_
    refine Wx_imul dX7_fillSets_22 ?_
    rw [show ((4 * (nI k)) : Int32) = nI (4 * k) from mulN rfl rfl]
    refine Wx_iadd dX7_fillSets_23 ?_
    rw [show ((4096 + (nI (4 * k))) : Int32) = nI ((4 * k) + 4096) from addE (a := 4096) (b := (4 * k)) rfl rfl (by omega)]
    refine Wx_aload1 dX7_fillSets_24 ?_
    refine Wx_iload3 dX7_fillSets_25 ?_
    refine Wx_iaload 1024 dX7_fillSets_26 rfl (Nat.le_of_ble_eq_true rfl) (vp_in_nI (show k < 1024 by omega) (by decide)) ?_
    rw [show ((nI k) : Int32).toNatClampNeg = k from nI_clamp (by omega)]
    have c3 := (w_wW (d + 0) (rA σ 54 (wrS (gA σ 54) (gA σ 35) k)) (((4 * k) + 4096)) ((gA (rA σ 54 (wrS (gA σ 54) (gA σ 35) k)) 35 k)) (Rf_rA hR) (by omega))
    refine Wx_cVv 50 7 [.int (nI ((4 * k) + 4096)), .int (gA (rA σ 54 (wrS (gA σ 54) (gA σ 35) k)) 35 k)] 2 m_X7_writeWord l_X7_79 i_X7_writeWord rfl rfl (show 50 < 122 by decide) dX7_fillSets_27 c3 (show _ ≤ d + 1 from Nat.le_refl _) (Nat.le_refl _) rfl (Nat.le_of_ble_eq_true rfl) rfl ?_
    clear c3
    refine Wx_iinc3 dX7_fillSets_30 rfl (Nat.le_of_ble_eq_true rfl) ?_
    rw [show (((nI k) : Int32) + Int32.ofInt 1) = nI (k + 1) from addE (a := k) (b := 1) rfl rfl (by omega)]
    refine Wx_goto 2 dX7_fillSets_33 (by decide) ?_
    refine Wx_eq (show (t_wW (rA σ 54 (wrS (gA σ 54) (gA σ 35) k)) (((4 * k) + 4096)) ((gA (rA σ 54 (wrS (gA σ 54) (gA σ 35) k)) 35 k))) = (rA σ 54 (wrS (gA σ 54) (gA σ 35) (k + 1))) from wrS_step σ 35 _ k rfl rfl) ?_
    exact Kk
  ·
    refine Wx_iload3 dX7_fillSets_2 ?_
    refine Wx_bipush (v := 8) dX7_fillSets_3 (by decide) ?_
    refine Wx_iload2 dX7_fillSets_5 ?_
    refine Wx_imul dX7_fillSets_6 ?_
    rw [show ((8 * (nI s)) : Int32) = nI (8 * s) from mulN rfl rfl]
    refine Wx_icmp_ge 36 dX7_fillSets_7 (by decide) (fun _ => ?_) (fun h => absurd ((cLe (a := (8 * s)) (b := (8 * s)) rfl rfl (by omega) (by omega)).mpr (by omega)) h)
    exact Wx_return dX7_fillSets_36 rfl rfl (⟨rfl, by rw [t_fillSets_30]⟩)
theorem dX7_prepare_0 : decode cX7_prepare 0 = .ok (.aload_n 0, 1) := by decide +kernel
theorem dX7_prepare_1 : decode cX7_prepare 1 = .ok (.getfield 9, 3) := by decide +kernel
theorem dX7_prepare_4 : decode cX7_prepare 4 = .ok (.iconst 0, 1) := by decide +kernel
theorem dX7_prepare_5 : decode cX7_prepare 5 = .ok (.invokestatic 83, 3) := by decide +kernel
theorem dX7_prepare_8 : decode cX7_prepare 8 = .ok (.aload_n 0, 1) := by decide +kernel
theorem dX7_prepare_9 : decode cX7_prepare 9 = .ok (.getfield 9, 3) := by decide +kernel
theorem dX7_prepare_12 : decode cX7_prepare 12 = .ok (.iconst 3, 1) := by decide +kernel
theorem dX7_prepare_13 : decode cX7_prepare 13 = .ok (.iload_n 1, 1) := by decide +kernel
theorem dX7_prepare_14 : decode cX7_prepare 14 = .ok (.iastore, 1) := by decide +kernel
theorem dX7_prepare_15 : decode cX7_prepare 15 = .ok (.aload_n 0, 1) := by decide +kernel
theorem dX7_prepare_16 : decode cX7_prepare 16 = .ok (.getfield 9, 3) := by decide +kernel
theorem dX7_prepare_19 : decode cX7_prepare 19 = .ok (.bipush 6, 2) := by decide +kernel
theorem dX7_prepare_21 : decode cX7_prepare 21 = .ok (.sipush 12288, 3) := by decide +kernel
theorem dX7_prepare_24 : decode cX7_prepare 24 = .ok (.iastore, 1) := by decide +kernel
theorem dX7_prepare_25 : decode cX7_prepare 25 = .ok (.aload_n 0, 1) := by decide +kernel
theorem dX7_prepare_26 : decode cX7_prepare 26 = .ok (.getfield 9, 3) := by decide +kernel
theorem dX7_prepare_29 : decode cX7_prepare 29 = .ok (.bipush 7, 2) := by decide +kernel
theorem dX7_prepare_31 : decode cX7_prepare 31 = .ok (.sipush 28672, 3) := by decide +kernel
theorem dX7_prepare_34 : decode cX7_prepare 34 = .ok (.iastore, 1) := by decide +kernel
theorem dX7_prepare_35 : decode cX7_prepare 35 = .ok (.aload_n 0, 1) := by decide +kernel
theorem dX7_prepare_36 : decode cX7_prepare 36 = .ok (.getfield 9, 3) := by decide +kernel
theorem dX7_prepare_39 : decode cX7_prepare 39 = .ok (.iconst 5, 1) := by decide +kernel
theorem dX7_prepare_40 : decode cX7_prepare 40 = .ok (.iload_n 2, 1) := by decide +kernel
theorem dX7_prepare_41 : decode cX7_prepare 41 = .ok (.iastore, 1) := by decide +kernel
theorem dX7_prepare_42 : decode cX7_prepare 42 = .ok (.aload_n 0, 1) := by decide +kernel
theorem dX7_prepare_43 : decode cX7_prepare 43 = .ok (.iload_n 2, 1) := by decide +kernel
theorem dX7_prepare_44 : decode cX7_prepare 44 = .ok (.putfield 43, 3) := by decide +kernel
theorem dX7_prepare_47 : decode cX7_prepare 47 = .ok (.aload_n 0, 1) := by decide +kernel
theorem dX7_prepare_48 : decode cX7_prepare 48 = .ok (.getfield 18, 3) := by decide +kernel
theorem dX7_prepare_51 : decode cX7_prepare 51 = .ok (.iconst 0, 1) := by decide +kernel
theorem dX7_prepare_52 : decode cX7_prepare 52 = .ok (.putfield 86, 3) := by decide +kernel
theorem dX7_prepare_55 : decode cX7_prepare 55 = .ok (.aload_n 0, 1) := by decide +kernel
theorem dX7_prepare_56 : decode cX7_prepare 56 = .ok (.iconst 0, 1) := by decide +kernel
theorem dX7_prepare_57 : decode cX7_prepare 57 = .ok (.invokevirtual 89, 3) := by decide +kernel
theorem dX7_prepare_60 : decode cX7_prepare 60 = .ok (.return_, 1) := by decide +kernel
def t_prepare (σ : Hp) (pl : Int32) (sk : Int32) : Hp := (t_goTo (pI (pI (pA (pA (pA (pA (t_fill51 σ) 51 (3 : Int32).toNatClampNeg pl) 51 (6 : Int32).toNatClampNeg 12288) 51 (7 : Int32).toNatClampNeg 28672) 51 (5 : Int32).toNatClampNeg sk) 50 7 sk) 52 0 0) (0))
theorem k_prepare (σ : Hp) (pl : Int32) (sk : Int32) : (t_prepare σ pl sk).2.1 = σ.2.1 := by
  unfold t_prepare
  simp only [apply_ite Prod.snd, apply_ite (Prod.fst (α := Nat → Nat → Option Nat) (β := (Nat → Nat → Int32) × (Nat → Nat → Int64))), k_fill51, k_goTo, R_pI, R_pA, R_pL, R_rA, ite_self]
theorem w_prepare (d : Nat) (σ : Hp) (pl : Int32) (sk : Int32) (hR : Rf σ) : Cx yX7_prepare cX7_prepare 3 none (d + 1) 122 122 [.ref 50, .int pl, .int sk] σ (fun o τ => o = .inl none ∧ τ = t_prepare σ pl sk) := by
  refine Cx_of RX7 false (by decide) rfl (fun q => by cases q) (Nat.le_refl _) rfl (Nat.le_of_ble_eq_true rfl) ?_
  refine Wx_aload0 dX7_prepare_0 ?_
  refine Wx_getR 7 0 51 dX7_prepare_1 f_X7_9 rfl (Nat.le_of_ble_eq_true rfl) rfl (hR 50 0 51 (by decide)) ?_
  refine Wx_iconst (v := 0) dX7_prepare_4 (by decide) ?_
  have c1 := (w_fill51 (d + 0) σ)
  refine Wx_cSv [.ref 51, .int 0] 2 m_J7_fill_53178 l_X7_83 s_J7_fill_53178 dX7_prepare_5 c1 (show _ ≤ d + 1 from Nat.le_refl _) (Nat.le_refl _) rfl (Nat.le_of_ble_eq_true rfl) rfl ?_
  clear c1
  refine Wx_aload0 dX7_prepare_8 ?_
  refine Wx_getR 7 0 51 dX7_prepare_9 f_X7_9 rfl (Nat.le_of_ble_eq_true rfl) rfl ((Rf_of (k_fill51 σ) hR) 50 0 51 (by decide)) ?_
  refine Wx_iconst (v := 3) dX7_prepare_12 (by decide) ?_
  refine Wx_iload1 dX7_prepare_13 ?_
  refine Wx_iastore 8 dX7_prepare_14 rfl (Nat.le_of_ble_eq_true rfl) (vp_in_iff.mpr ⟨by decide, by decide⟩) ?_
  refine Wx_aload0 dX7_prepare_15 ?_
  refine Wx_getR 7 0 51 dX7_prepare_16 f_X7_9 rfl (Nat.le_of_ble_eq_true rfl) rfl ((Rf_pA (Rf_of (k_fill51 σ) hR)) 50 0 51 (by decide)) ?_
  refine Wx_bipush (v := 6) dX7_prepare_19 (by decide) ?_
  refine Wx_sipush (v := 12288) dX7_prepare_21 (by decide) ?_
  refine Wx_iastore 8 dX7_prepare_24 rfl (Nat.le_of_ble_eq_true rfl) (vp_in_iff.mpr ⟨by decide, by decide⟩) ?_
  refine Wx_aload0 dX7_prepare_25 ?_
  refine Wx_getR 7 0 51 dX7_prepare_26 f_X7_9 rfl (Nat.le_of_ble_eq_true rfl) rfl ((Rf_pA (Rf_pA (Rf_of (k_fill51 σ) hR))) 50 0 51 (by decide)) ?_
  refine Wx_bipush (v := 7) dX7_prepare_29 (by decide) ?_
  refine Wx_sipush (v := 28672) dX7_prepare_31 (by decide) ?_
  refine Wx_iastore 8 dX7_prepare_34 rfl (Nat.le_of_ble_eq_true rfl) (vp_in_iff.mpr ⟨by decide, by decide⟩) ?_
  refine Wx_aload0 dX7_prepare_35 ?_
  refine Wx_getR 7 0 51 dX7_prepare_36 f_X7_9 rfl (Nat.le_of_ble_eq_true rfl) rfl ((Rf_pA (Rf_pA (Rf_pA (Rf_of (k_fill51 σ) hR)))) 50 0 51 (by decide)) ?_
  refine Wx_iconst (v := 5) dX7_prepare_39 (by decide) ?_
  refine Wx_iload2 dX7_prepare_40 ?_
  refine Wx_iastore 8 dX7_prepare_41 rfl (Nat.le_of_ble_eq_true rfl) (vp_in_iff.mpr ⟨by decide, by decide⟩) ?_
  refine Wx_aload0 dX7_prepare_42 ?_
  refine Wx_iload2 dX7_prepare_43 ?_
  refine Wx_putI 7 7 dX7_prepare_44 f_X7_43 rfl (Nat.le_of_ble_eq_true rfl) rfl rfl ?_
  refine Wx_aload0 dX7_prepare_47 ?_
  refine Wx_getR 7 1 52 dX7_prepare_48 f_X7_18 rfl (Nat.le_of_ble_eq_true rfl) rfl ((Rf_pI (Rf_pA (Rf_pA (Rf_pA (Rf_pA (Rf_of (k_fill51 σ) hR)))))) 50 1 52 (by decide)) ?_
  refine Wx_iconst (v := 0) dX7_prepare_51 (by decide) ?_
  refine Wx_putI 0 0 dX7_prepare_52 f_X7_86 rfl (Nat.le_of_ble_eq_true rfl) rfl rfl ?_
  refine Wx_aload0 dX7_prepare_55 ?_
  refine Wx_iconst (v := 0) dX7_prepare_56 (by decide) ?_
  have c2 := (w_goTo (d + 0) (pI (pI (pA (pA (pA (pA (t_fill51 σ) 51 (3 : Int32).toNatClampNeg pl) 51 (6 : Int32).toNatClampNeg 12288) 51 (7 : Int32).toNatClampNeg 28672) 51 (5 : Int32).toNatClampNeg sk) 50 7 sk) 52 0 0) (0))
  refine Wx_cVv 50 7 [.int 0] 1 m_X7_goTo l_X7_89 i_X7_goTo rfl rfl (show 50 < 122 by decide) dX7_prepare_57 c2 (show _ ≤ d + 1 from Nat.le_refl _) (Nat.le_refl _) rfl (Nat.le_of_ble_eq_true rfl) rfl ?_
  clear c2
  exact Wx_return dX7_prepare_60 rfl rfl (⟨rfl, by rw [t_prepare]⟩)
theorem dX11_arm_0 : decode cX11_arm 0 = .ok (.iload_n 2, 1) := by decide +kernel
theorem dX11_arm_1 : decode cX11_arm 1 = .ok (.iconst 1, 1) := by decide +kernel
theorem dX11_arm_2 : decode cX11_arm 2 = .ok (.if_icmp .lt 14, 3) := by decide +kernel
theorem dX11_arm_5 : decode cX11_arm 5 = .ok (.iload_n 2, 1) := by decide +kernel
theorem dX11_arm_6 : decode cX11_arm 6 = .ok (.sipush 1000, 3) := by decide +kernel
theorem dX11_arm_9 : decode cX11_arm 9 = .ok (.if_icmp .gt 7, 3) := by decide +kernel
theorem dX11_arm_12 : decode cX11_arm 12 = .ok (.iconst 1, 1) := by decide +kernel
theorem dX11_arm_13 : decode cX11_arm 13 = .ok (.goto 4, 3) := by decide +kernel
theorem dX11_arm_16 : decode cX11_arm 16 = .ok (.iconst 0, 1) := by decide +kernel
theorem dX11_arm_17 : decode cX11_arm 17 = .ok (.istore_n 3, 1) := by decide +kernel
theorem dX11_arm_18 : decode cX11_arm 18 = .ok (.aload_n 0, 1) := by decide +kernel
theorem dX11_arm_19 : decode cX11_arm 19 = .ok (.getfield 55, 3) := by decide +kernel
theorem dX11_arm_22 : decode cX11_arm 22 = .ok (.getfield 128, 3) := by decide +kernel
theorem dX11_arm_25 : decode cX11_arm 25 = .ok (.ifCond .eq 19, 3) := by decide +kernel
theorem dX11_arm_28 : decode cX11_arm 28 = .ok (.iload_n 3, 1) := by decide +kernel
theorem dX11_arm_29 : decode cX11_arm 29 = .ok (.ifCond .eq 15, 3) := by decide +kernel
theorem dX11_arm_32 : decode cX11_arm 32 = .ok (.iload_n 1, 1) := by decide +kernel
theorem dX11_arm_33 : decode cX11_arm 33 = .ok (.ifCond .lt 11, 3) := by decide +kernel
theorem dX11_arm_36 : decode cX11_arm 36 = .ok (.iload_n 1, 1) := by decide +kernel
theorem dX11_arm_37 : decode cX11_arm 37 = .ok (.aload_n 0, 1) := by decide +kernel
theorem dX11_arm_38 : decode cX11_arm 38 = .ok (.getfield 20, 3) := by decide +kernel
theorem dX11_arm_41 : decode cX11_arm 41 = .ok (.if_icmp .le 5, 3) := by decide +kernel
theorem dX11_arm_44 : decode cX11_arm 44 = .ok (.iconst 0, 1) := by decide +kernel
theorem dX11_arm_45 : decode cX11_arm 45 = .ok (.ireturn, 1) := by decide +kernel
theorem dX11_arm_46 : decode cX11_arm 46 = .ok (.aload_n 0, 1) := by decide +kernel
theorem dX11_arm_47 : decode cX11_arm 47 = .ok (.getfield 83, 3) := by decide +kernel
theorem dX11_arm_50 : decode cX11_arm 50 = .ok (.aload_n 0, 1) := by decide +kernel
theorem dX11_arm_51 : decode cX11_arm 51 = .ok (.getfield 76, 3) := by decide +kernel
theorem dX11_arm_54 : decode cX11_arm 54 = .ok (.getfield 169, 3) := by decide +kernel
theorem dX11_arm_57 : decode cX11_arm 57 = .ok (.aload_n 0, 1) := by decide +kernel
theorem dX11_arm_58 : decode cX11_arm 58 = .ok (.getfield 55, 3) := by decide +kernel
theorem dX11_arm_61 : decode cX11_arm 61 = .ok (.getfield 137, 3) := by decide +kernel
theorem dX11_arm_64 : decode cX11_arm 64 = .ok (.invokevirtual 178, 3) := by decide +kernel
theorem dX11_arm_67 : decode cX11_arm 67 = .ok (.aload_n 0, 1) := by decide +kernel
theorem dX11_arm_68 : decode cX11_arm 68 = .ok (.getfield 83, 3) := by decide +kernel
theorem dX11_arm_71 : decode cX11_arm 71 = .ok (.invokevirtual 182, 3) := by decide +kernel
theorem dX11_arm_74 : decode cX11_arm 74 = .ok (.aload_n 0, 1) := by decide +kernel
theorem dX11_arm_75 : decode cX11_arm 75 = .ok (.getfield 83, 3) := by decide +kernel
theorem dX11_arm_78 : decode cX11_arm 78 = .ok (.aload_n 0, 1) := by decide +kernel
theorem dX11_arm_79 : decode cX11_arm 79 = .ok (.getfield 17, 3) := by decide +kernel
theorem dX11_arm_82 : decode cX11_arm 82 = .ok (.aload_n 0, 1) := by decide +kernel
theorem dX11_arm_83 : decode cX11_arm 83 = .ok (.getfield 20, 3) := by decide +kernel
theorem dX11_arm_86 : decode cX11_arm 86 = .ok (.invokevirtual 185, 3) := by decide +kernel
theorem dX11_arm_89 : decode cX11_arm 89 = .ok (.aload_n 0, 1) := by decide +kernel
theorem dX11_arm_90 : decode cX11_arm 90 = .ok (.getfield 83, 3) := by decide +kernel
theorem dX11_arm_93 : decode cX11_arm 93 = .ok (.aload_n 0, 1) := by decide +kernel
theorem dX11_arm_94 : decode cX11_arm 94 = .ok (.getfield 55, 3) := by decide +kernel
theorem dX11_arm_97 : decode cX11_arm 97 = .ok (.getfield 166, 3) := by decide +kernel
theorem dX11_arm_100 : decode cX11_arm 100 = .ok (.aload_n 0, 1) := by decide +kernel
theorem dX11_arm_101 : decode cX11_arm 101 = .ok (.getfield 55, 3) := by decide +kernel
theorem dX11_arm_104 : decode cX11_arm 104 = .ok (.getfield 134, 3) := by decide +kernel
theorem dX11_arm_107 : decode cX11_arm 107 = .ok (.invokevirtual 188, 3) := by decide +kernel
theorem dX11_arm_110 : decode cX11_arm 110 = .ok (.aload_n 0, 1) := by decide +kernel
theorem dX11_arm_111 : decode cX11_arm 111 = .ok (.getfield 83, 3) := by decide +kernel
theorem dX11_arm_114 : decode cX11_arm 114 = .ok (.iload_n 1, 1) := by decide +kernel
theorem dX11_arm_115 : decode cX11_arm 115 = .ok (.iload_n 2, 1) := by decide +kernel
theorem dX11_arm_116 : decode cX11_arm 116 = .ok (.invokevirtual 192, 3) := by decide +kernel
theorem dX11_arm_119 : decode cX11_arm 119 = .ok (.aload_n 0, 1) := by decide +kernel
theorem dX11_arm_120 : decode cX11_arm 120 = .ok (.getfield 90, 3) := by decide +kernel
theorem dX11_arm_123 : decode cX11_arm 123 = .ok (.invokevirtual 196, 3) := by decide +kernel
theorem dX11_arm_126 : decode cX11_arm 126 = .ok (.iconst 1, 1) := by decide +kernel
theorem dX11_arm_127 : decode cX11_arm 127 = .ok (.ireturn, 1) := by decide +kernel
def r_arm_21 (σ : Hp) (pl : Int32) (sk : Int32) (m u s : Nat) : Int32 := (if sk < 1 then 0 else (if 1000 < sk then 0 else (if (gI σ 21 8) = 0 then 0 else (if pl < 0 then 0 else (if pl ≤ (nI u) then 1 else 0)))))
def t_arm_21 (σ : Hp) (pl : Int32) (sk : Int32) (m u s : Nat) : Hp := (if sk < 1 then σ else (if 1000 < sk then σ else (if (gI σ 21 8) = 0 then σ else (if pl < 0 then σ else (if pl ≤ (nI u) then (t_forget (t_prepare (t_fillSets_21 (t_fillData (t_clear (t_takeC σ m)) u) s) (pl) (sk))) else σ)))))
theorem k_arm_21 (σ : Hp) (pl : Int32) (sk : Int32) (m u s : Nat) : (t_arm_21 σ pl sk m u s).2.1 = σ.2.1 := by
  unfold t_arm_21
  simp only [apply_ite Prod.snd, apply_ite (Prod.fst (α := Nat → Nat → Option Nat) (β := (Nat → Nat → Int32) × (Nat → Nat → Int64))), k_clear, k_fillData, k_fillSets_21, k_forget, k_prepare, k_takeC, R_pI, R_pA, R_pL, R_rA, ite_self]
theorem w_arm_21 (d : Nat) (σ : Hp) (pl : Int32) (sk : Int32) (m u s : Nat) (hR : Rf σ) (hC : gR σ 0 9 = some 21) (em : gI σ 21 12 = nI m) (eu : gI σ 0 3 = nI u) (es : gI σ 21 11 = nI s) (hm : m ≤ 61440) (hu : u ≤ 4000) (hs : s ≤ 128) (hBc : ∀ k, k < 61440 → fits (tyA 0) (.int (gA σ 45 k)) = true) (hBs : ∀ k, k < 4000 → fits (tyA 0) (.int (gA σ 2 k)) = true) : Cx yX11_arm cX11_arm 4 (some .boolean) (d + 3) 122 122 [.ref 0, .int pl, .int sk] σ (fun o τ => o = .inl (some (.int (r_arm_21 σ pl sk m u s))) ∧ τ = t_arm_21 σ pl sk m u s) := by
  refine Cx_of RX11 false (by decide) rfl (fun q => by cases q) (Nat.le_refl _) rfl (Nat.le_of_ble_eq_true rfl) ?_
  refine Wx_iload2 dX11_arm_0 ?_
  refine Wx_iconst (v := 1) dX11_arm_1 (by decide) ?_
  refine Wx_icmp_lt 16 dX11_arm_2 (by decide) (fun h1 => ?_) (fun h1 => ?_)
  ·
    refine Wx_iconst (v := 0) dX11_arm_16 (by decide) ?_
    refine Wx_istore3 dX11_arm_17 rfl (Nat.le_of_ble_eq_true rfl) ?_
    refine Wx_aload0 dX11_arm_18 ?_
    refine Wx_getR 11 9 21 dX11_arm_19 f_X11_55 rfl (Nat.le_of_ble_eq_true rfl) rfl hC ?_
    refine Wx_getI 8 8 dX11_arm_22 f_X11_128 rfl (Nat.le_of_ble_eq_true rfl) rfl ?_
    refine Wx_if_eq 44 dX11_arm_25 (by decide) (fun h2 => ?_) (fun h2 => ?_)
    ·
      refine Wx_iconst (v := 0) dX11_arm_44 (by decide) ?_
      exact Wx_zreturn dX11_arm_45 rfl (by decide) rfl (⟨by rw [r_arm_21, if_pos h1], by rw [t_arm_21, if_pos h1]⟩)
    ·
      refine Wx_iload3 dX11_arm_28 ?_
      refine Wx_if_eq 44 dX11_arm_29 (by decide) (fun _ => ?_) (fun h => absurd (by decide) h)
      refine Wx_iconst (v := 0) dX11_arm_44 (by decide) ?_
      exact Wx_zreturn dX11_arm_45 rfl (by decide) rfl (⟨by rw [r_arm_21, if_pos h1], by rw [t_arm_21, if_pos h1]⟩)
  ·
    refine Wx_iload2 dX11_arm_5 ?_
    refine Wx_sipush (v := 1000) dX11_arm_6 (by decide) ?_
    refine Wx_icmp_gt 16 dX11_arm_9 (by decide) (fun h3 => ?_) (fun h3 => ?_)
    ·
      refine Wx_iconst (v := 0) dX11_arm_16 (by decide) ?_
      refine Wx_istore3 dX11_arm_17 rfl (Nat.le_of_ble_eq_true rfl) ?_
      refine Wx_aload0 dX11_arm_18 ?_
      refine Wx_getR 11 9 21 dX11_arm_19 f_X11_55 rfl (Nat.le_of_ble_eq_true rfl) rfl hC ?_
      refine Wx_getI 8 8 dX11_arm_22 f_X11_128 rfl (Nat.le_of_ble_eq_true rfl) rfl ?_
      refine Wx_if_eq 44 dX11_arm_25 (by decide) (fun h4 => ?_) (fun h4 => ?_)
      ·
        refine Wx_iconst (v := 0) dX11_arm_44 (by decide) ?_
        exact Wx_zreturn dX11_arm_45 rfl (by decide) rfl (⟨by rw [r_arm_21, if_neg h1, if_pos h3], by rw [t_arm_21, if_neg h1, if_pos h3]⟩)
      ·
        refine Wx_iload3 dX11_arm_28 ?_
        refine Wx_if_eq 44 dX11_arm_29 (by decide) (fun _ => ?_) (fun h => absurd (by decide) h)
        refine Wx_iconst (v := 0) dX11_arm_44 (by decide) ?_
        exact Wx_zreturn dX11_arm_45 rfl (by decide) rfl (⟨by rw [r_arm_21, if_neg h1, if_pos h3], by rw [t_arm_21, if_neg h1, if_pos h3]⟩)
    ·
      refine Wx_iconst (v := 1) dX11_arm_12 (by decide) ?_
      refine Wx_goto 17 dX11_arm_13 (by decide) ?_
      refine Wx_istore3 dX11_arm_17 rfl (Nat.le_of_ble_eq_true rfl) ?_
      refine Wx_aload0 dX11_arm_18 ?_
      refine Wx_getR 11 9 21 dX11_arm_19 f_X11_55 rfl (Nat.le_of_ble_eq_true rfl) rfl hC ?_
      refine Wx_getI 8 8 dX11_arm_22 f_X11_128 rfl (Nat.le_of_ble_eq_true rfl) rfl ?_
      refine Wx_if_eq 44 dX11_arm_25 (by decide) (fun h5 => ?_) (fun h5 => ?_)
      ·
        refine Wx_iconst (v := 0) dX11_arm_44 (by decide) ?_
        exact Wx_zreturn dX11_arm_45 rfl (by decide) rfl (⟨by rw [r_arm_21, if_neg h1, if_neg h3, if_pos h5], by rw [t_arm_21, if_neg h1, if_neg h3, if_pos h5]⟩)
      ·
        refine Wx_iload3 dX11_arm_28 ?_
        refine Wx_if_eq 44 dX11_arm_29 (by decide) (fun h => absurd h (by decide)) (fun _ => ?_)
        refine Wx_iload1 dX11_arm_32 ?_
        refine Wx_if_lt 44 dX11_arm_33 (by decide) (fun h6 => ?_) (fun h6 => ?_)
        ·
          refine Wx_iconst (v := 0) dX11_arm_44 (by decide) ?_
          exact Wx_zreturn dX11_arm_45 rfl (by decide) rfl (⟨by rw [r_arm_21, if_neg h1, if_neg h3, if_neg h5, if_pos h6], by rw [t_arm_21, if_neg h1, if_neg h3, if_neg h5, if_pos h6]⟩)
        ·
          refine Wx_iload1 dX11_arm_36 ?_
          refine Wx_aload0 dX11_arm_37 ?_
          refine Wx_getI 11 3 dX11_arm_38 f_X11_20 rfl (Nat.le_of_ble_eq_true rfl) rfl ?_
          rw [show gI σ 0 3 = (nI u) from eu]
          refine Wx_icmp_le 46 dX11_arm_41 (by decide) (fun h7 => ?_) (fun h7 => ?_)
          ·
            refine Wx_aload0 dX11_arm_46 ?_
            refine Wx_getR 11 13 50 dX11_arm_47 f_X11_83 rfl (Nat.le_of_ble_eq_true rfl) rfl (hR 0 13 50 (by decide)) ?_
            refine Wx_aload0 dX11_arm_50 ?_
            refine Wx_getR 11 12 44 dX11_arm_51 f_X11_76 rfl (Nat.le_of_ble_eq_true rfl) rfl (hR 0 12 44 (by decide)) ?_
            refine Wx_getR 1 0 45 dX11_arm_54 f_X11_169 rfl (Nat.le_of_ble_eq_true rfl) rfl (hR 44 0 45 (by decide)) ?_
            refine Wx_aload0 dX11_arm_57 ?_
            refine Wx_getR 11 9 21 dX11_arm_58 f_X11_55 rfl (Nat.le_of_ble_eq_true rfl) rfl hC ?_
            refine Wx_getI 8 12 dX11_arm_61 f_X11_137 rfl (Nat.le_of_ble_eq_true rfl) rfl ?_
            rw [show gI σ 21 12 = (nI m) from em]
            have c8 := (w_takeC (d + 1) σ m hR hm hBc)
            refine Wx_cVv 50 7 [.ref 45, .int (nI m)] 2 m_X7_takeCode l_X11_178 i_X7_takeCode rfl rfl (show 50 < 122 by decide) dX11_arm_64 c8 (show _ ≤ d + 3 from Nat.le_refl _) (Nat.le_refl _) rfl (Nat.le_of_ble_eq_true rfl) rfl ?_
            clear c8
            refine Wx_aload0 dX11_arm_67 ?_
            refine Wx_getR 11 13 50 dX11_arm_68 f_X11_83 rfl (Nat.le_of_ble_eq_true rfl) rfl ((Rf_of (k_takeC σ m) hR) 0 13 50 (by decide)) ?_
            have c9 := (w_clear (d + 1) (t_takeC σ m) (Rf_of (k_takeC σ m) hR))
            refine Wx_cVv 50 7 [] 0 m_X7_clearData l_X11_182 i_X7_clearData rfl rfl (show 50 < 122 by decide) dX11_arm_71 c9 (show _ ≤ d + 3 from Nat.le_refl _) (Nat.le_refl _) rfl (Nat.le_of_ble_eq_true rfl) rfl ?_
            clear c9
            refine Wx_aload0 dX11_arm_74 ?_
            refine Wx_getR 11 13 50 dX11_arm_75 f_X11_83 rfl (Nat.le_of_ble_eq_true rfl) rfl ((Rf_of (k_clear (t_takeC σ m)) (Rf_of (k_takeC σ m) hR)) 0 13 50 (by decide)) ?_
            refine Wx_aload0 dX11_arm_78 ?_
            refine Wx_getR 11 2 2 dX11_arm_79 f_X11_17 rfl (Nat.le_of_ble_eq_true rfl) rfl ((Rf_of (k_clear (t_takeC σ m)) (Rf_of (k_takeC σ m) hR)) 0 2 2 (by decide)) ?_
            refine Wx_aload0 dX11_arm_82 ?_
            refine Wx_getI 11 3 dX11_arm_83 f_X11_20 rfl (Nat.le_of_ble_eq_true rfl) rfl ?_
            rw [show gI (t_clear (t_takeC σ m)) 0 3 = (nI u) from (by simp only [t_takeC, t_clear, t_fill54, t_fillData, t_fillSets_21, t_wW, gI_rA, gI_pA, gI_pI (show ¬ (0 = 50 ∧ 3 = 3) by decide)]; exact eu)]
            have c10 := (w_fillData (d + 1) (t_clear (t_takeC σ m)) u (Rf_of (k_clear (t_takeC σ m)) (Rf_of (k_takeC σ m) hR)) hu hBs)
            refine Wx_cVv 50 7 [.ref 2, .int (nI u)] 2 m_X7_fillData l_X11_185 i_X7_fillData rfl rfl (show 50 < 122 by decide) dX11_arm_86 c10 (show _ ≤ d + 3 from Nat.le_refl _) (Nat.le_refl _) rfl (Nat.le_of_ble_eq_true rfl) rfl ?_
            clear c10
            refine Wx_aload0 dX11_arm_89 ?_
            refine Wx_getR 11 13 50 dX11_arm_90 f_X11_83 rfl (Nat.le_of_ble_eq_true rfl) rfl ((Rf_of (k_fillData (t_clear (t_takeC σ m)) u) (Rf_of (k_clear (t_takeC σ m)) (Rf_of (k_takeC σ m) hR))) 0 13 50 (by decide)) ?_
            refine Wx_aload0 dX11_arm_93 ?_
            refine Wx_getR 11 9 21 dX11_arm_94 f_X11_55 rfl (Nat.le_of_ble_eq_true rfl) rfl ((gR_of (k_fillData (t_clear (t_takeC σ m)) u)).trans ((gR_of (k_clear (t_takeC σ m))).trans ((gR_of (k_takeC σ m)).trans hC))) ?_
            refine Wx_getR 8 4 26 dX11_arm_97 f_X11_166 rfl (Nat.le_of_ble_eq_true rfl) rfl ((Rf_of (k_fillData (t_clear (t_takeC σ m)) u) (Rf_of (k_clear (t_takeC σ m)) (Rf_of (k_takeC σ m) hR))) 21 4 26 (by decide)) ?_
            refine Wx_aload0 dX11_arm_100 ?_
            refine Wx_getR 11 9 21 dX11_arm_101 f_X11_55 rfl (Nat.le_of_ble_eq_true rfl) rfl ((gR_of (k_fillData (t_clear (t_takeC σ m)) u)).trans ((gR_of (k_clear (t_takeC σ m))).trans ((gR_of (k_takeC σ m)).trans hC))) ?_
            refine Wx_getI 8 11 dX11_arm_104 f_X11_134 rfl (Nat.le_of_ble_eq_true rfl) rfl ?_
            rw [show gI (t_fillData (t_clear (t_takeC σ m)) u) 21 11 = (nI s) from (by simp only [t_takeC, t_clear, t_fill54, t_fillData, t_fillSets_21, t_wW, gI_rA, gI_pA, gI_pI (show ¬ (21 = 50 ∧ 11 = 3) by decide)]; exact es)]
            have c11 := (w_fillSets_21 (d + 1) (t_fillData (t_clear (t_takeC σ m)) u) s (Rf_of (k_fillData (t_clear (t_takeC σ m)) u) (Rf_of (k_clear (t_takeC σ m)) (Rf_of (k_takeC σ m) hR))) hs)
            refine Wx_cVv 50 7 [.ref 26, .int (nI s)] 2 m_X7_fillSets l_X11_188 i_X7_fillSets rfl rfl (show 50 < 122 by decide) dX11_arm_107 c11 (show _ ≤ d + 3 from Nat.le_refl _) (Nat.le_refl _) rfl (Nat.le_of_ble_eq_true rfl) rfl ?_
            clear c11
            refine Wx_aload0 dX11_arm_110 ?_
            refine Wx_getR 11 13 50 dX11_arm_111 f_X11_83 rfl (Nat.le_of_ble_eq_true rfl) rfl ((Rf_of (k_fillSets_21 (t_fillData (t_clear (t_takeC σ m)) u) s) (Rf_of (k_fillData (t_clear (t_takeC σ m)) u) (Rf_of (k_clear (t_takeC σ m)) (Rf_of (k_takeC σ m) hR)))) 0 13 50 (by decide)) ?_
            refine Wx_iload1 dX11_arm_114 ?_
            refine Wx_iload2 dX11_arm_115 ?_
            have c12 := (w_prepare (d + 1) (t_fillSets_21 (t_fillData (t_clear (t_takeC σ m)) u) s) (pl) (sk) (Rf_of (k_fillSets_21 (t_fillData (t_clear (t_takeC σ m)) u) s) (Rf_of (k_fillData (t_clear (t_takeC σ m)) u) (Rf_of (k_clear (t_takeC σ m)) (Rf_of (k_takeC σ m) hR)))))
            refine Wx_cVv 50 7 [.int pl, .int sk] 2 m_X7_prepare l_X11_192 i_X7_prepare rfl rfl (show 50 < 122 by decide) dX11_arm_116 c12 (show _ ≤ d + 3 from Nat.le_refl _) (Nat.le_refl _) rfl (Nat.le_of_ble_eq_true rfl) rfl ?_
            clear c12
            refine Wx_aload0 dX11_arm_119 ?_
            refine Wx_getR 11 14 56 dX11_arm_120 f_X11_90 rfl (Nat.le_of_ble_eq_true rfl) rfl ((Rf_of (k_prepare (t_fillSets_21 (t_fillData (t_clear (t_takeC σ m)) u) s) (pl) (sk)) (Rf_of (k_fillSets_21 (t_fillData (t_clear (t_takeC σ m)) u) s) (Rf_of (k_fillData (t_clear (t_takeC σ m)) u) (Rf_of (k_clear (t_takeC σ m)) (Rf_of (k_takeC σ m) hR))))) 0 14 56 (by decide)) ?_
            have c13 := (w_forget (d + 2) (t_prepare (t_fillSets_21 (t_fillData (t_clear (t_takeC σ m)) u) s) (pl) (sk)))
            refine Wx_cVv 56 2 [] 0 m_X2_forget l_X11_196 i_X2_forget rfl rfl (show 56 < 122 by decide) dX11_arm_123 c13 (show _ ≤ d + 3 from Nat.le_refl _) (Nat.le_refl _) rfl (Nat.le_of_ble_eq_true rfl) rfl ?_
            clear c13
            refine Wx_iconst (v := 1) dX11_arm_126 (by decide) ?_
            exact Wx_zreturn dX11_arm_127 rfl (by decide) rfl (⟨by rw [r_arm_21, if_neg h1, if_neg h3, if_neg h5, if_neg h6, if_pos h7], by rw [t_arm_21, if_neg h1, if_neg h3, if_neg h5, if_neg h6, if_pos h7]⟩)
          ·
            refine Wx_iconst (v := 0) dX11_arm_44 (by decide) ?_
            exact Wx_zreturn dX11_arm_45 rfl (by decide) rfl (⟨by rw [r_arm_21, if_neg h1, if_neg h3, if_neg h5, if_neg h6, if_neg h7], by rw [t_arm_21, if_neg h1, if_neg h3, if_neg h5, if_neg h6, if_neg h7]⟩)
def r_arm_30 (σ : Hp) (pl : Int32) (sk : Int32) (m u s : Nat) : Int32 := (if sk < 1 then 0 else (if 1000 < sk then 0 else (if (gI σ 30 8) = 0 then 0 else (if pl < 0 then 0 else (if pl ≤ (nI u) then 1 else 0)))))
def t_arm_30 (σ : Hp) (pl : Int32) (sk : Int32) (m u s : Nat) : Hp := (if sk < 1 then σ else (if 1000 < sk then σ else (if (gI σ 30 8) = 0 then σ else (if pl < 0 then σ else (if pl ≤ (nI u) then (t_forget (t_prepare (t_fillSets_30 (t_fillData (t_clear (t_takeC σ m)) u) s) (pl) (sk))) else σ)))))
theorem k_arm_30 (σ : Hp) (pl : Int32) (sk : Int32) (m u s : Nat) : (t_arm_30 σ pl sk m u s).2.1 = σ.2.1 := by
  unfold t_arm_30
  simp only [apply_ite Prod.snd, apply_ite (Prod.fst (α := Nat → Nat → Option Nat) (β := (Nat → Nat → Int32) × (Nat → Nat → Int64))), k_clear, k_fillData, k_fillSets_30, k_forget, k_prepare, k_takeC, R_pI, R_pA, R_pL, R_rA, ite_self]
theorem w_arm_30 (d : Nat) (σ : Hp) (pl : Int32) (sk : Int32) (m u s : Nat) (hR : Rf σ) (hC : gR σ 0 9 = some 30) (em : gI σ 30 12 = nI m) (eu : gI σ 0 3 = nI u) (es : gI σ 30 11 = nI s) (hm : m ≤ 61440) (hu : u ≤ 4000) (hs : s ≤ 128) (hBc : ∀ k, k < 61440 → fits (tyA 0) (.int (gA σ 45 k)) = true) (hBs : ∀ k, k < 4000 → fits (tyA 0) (.int (gA σ 2 k)) = true) : Cx yX11_arm cX11_arm 4 (some .boolean) (d + 3) 122 122 [.ref 0, .int pl, .int sk] σ (fun o τ => o = .inl (some (.int (r_arm_30 σ pl sk m u s))) ∧ τ = t_arm_30 σ pl sk m u s) := by
  refine Cx_of RX11 false (by decide) rfl (fun q => by cases q) (Nat.le_refl _) rfl (Nat.le_of_ble_eq_true rfl) ?_
  refine Wx_iload2 dX11_arm_0 ?_
  refine Wx_iconst (v := 1) dX11_arm_1 (by decide) ?_
  refine Wx_icmp_lt 16 dX11_arm_2 (by decide) (fun h1 => ?_) (fun h1 => ?_)
  ·
    refine Wx_iconst (v := 0) dX11_arm_16 (by decide) ?_
    refine Wx_istore3 dX11_arm_17 rfl (Nat.le_of_ble_eq_true rfl) ?_
    refine Wx_aload0 dX11_arm_18 ?_
    refine Wx_getR 11 9 30 dX11_arm_19 f_X11_55 rfl (Nat.le_of_ble_eq_true rfl) rfl hC ?_
    refine Wx_getI 8 8 dX11_arm_22 f_X11_128 rfl (Nat.le_of_ble_eq_true rfl) rfl ?_
    refine Wx_if_eq 44 dX11_arm_25 (by decide) (fun h2 => ?_) (fun h2 => ?_)
    ·
      refine Wx_iconst (v := 0) dX11_arm_44 (by decide) ?_
      exact Wx_zreturn dX11_arm_45 rfl (by decide) rfl (⟨by rw [r_arm_30, if_pos h1], by rw [t_arm_30, if_pos h1]⟩)
    ·
      refine Wx_iload3 dX11_arm_28 ?_
      refine Wx_if_eq 44 dX11_arm_29 (by decide) (fun _ => ?_) (fun h => absurd (by decide) h)
      refine Wx_iconst (v := 0) dX11_arm_44 (by decide) ?_
      exact Wx_zreturn dX11_arm_45 rfl (by decide) rfl (⟨by rw [r_arm_30, if_pos h1], by rw [t_arm_30, if_pos h1]⟩)
  ·
    refine Wx_iload2 dX11_arm_5 ?_
    refine Wx_sipush (v := 1000) dX11_arm_6 (by decide) ?_
    refine Wx_icmp_gt 16 dX11_arm_9 (by decide) (fun h3 => ?_) (fun h3 => ?_)
    ·
      refine Wx_iconst (v := 0) dX11_arm_16 (by decide) ?_
      refine Wx_istore3 dX11_arm_17 rfl (Nat.le_of_ble_eq_true rfl) ?_
      refine Wx_aload0 dX11_arm_18 ?_
      refine Wx_getR 11 9 30 dX11_arm_19 f_X11_55 rfl (Nat.le_of_ble_eq_true rfl) rfl hC ?_
      refine Wx_getI 8 8 dX11_arm_22 f_X11_128 rfl (Nat.le_of_ble_eq_true rfl) rfl ?_
      refine Wx_if_eq 44 dX11_arm_25 (by decide) (fun h4 => ?_) (fun h4 => ?_)
      ·
        refine Wx_iconst (v := 0) dX11_arm_44 (by decide) ?_
        exact Wx_zreturn dX11_arm_45 rfl (by decide) rfl (⟨by rw [r_arm_30, if_neg h1, if_pos h3], by rw [t_arm_30, if_neg h1, if_pos h3]⟩)
      ·
        refine Wx_iload3 dX11_arm_28 ?_
        refine Wx_if_eq 44 dX11_arm_29 (by decide) (fun _ => ?_) (fun h => absurd (by decide) h)
        refine Wx_iconst (v := 0) dX11_arm_44 (by decide) ?_
        exact Wx_zreturn dX11_arm_45 rfl (by decide) rfl (⟨by rw [r_arm_30, if_neg h1, if_pos h3], by rw [t_arm_30, if_neg h1, if_pos h3]⟩)
    ·
      refine Wx_iconst (v := 1) dX11_arm_12 (by decide) ?_
      refine Wx_goto 17 dX11_arm_13 (by decide) ?_
      refine Wx_istore3 dX11_arm_17 rfl (Nat.le_of_ble_eq_true rfl) ?_
      refine Wx_aload0 dX11_arm_18 ?_
      refine Wx_getR 11 9 30 dX11_arm_19 f_X11_55 rfl (Nat.le_of_ble_eq_true rfl) rfl hC ?_
      refine Wx_getI 8 8 dX11_arm_22 f_X11_128 rfl (Nat.le_of_ble_eq_true rfl) rfl ?_
      refine Wx_if_eq 44 dX11_arm_25 (by decide) (fun h5 => ?_) (fun h5 => ?_)
      ·
        refine Wx_iconst (v := 0) dX11_arm_44 (by decide) ?_
        exact Wx_zreturn dX11_arm_45 rfl (by decide) rfl (⟨by rw [r_arm_30, if_neg h1, if_neg h3, if_pos h5], by rw [t_arm_30, if_neg h1, if_neg h3, if_pos h5]⟩)
      ·
        refine Wx_iload3 dX11_arm_28 ?_
        refine Wx_if_eq 44 dX11_arm_29 (by decide) (fun h => absurd h (by decide)) (fun _ => ?_)
        refine Wx_iload1 dX11_arm_32 ?_
        refine Wx_if_lt 44 dX11_arm_33 (by decide) (fun h6 => ?_) (fun h6 => ?_)
        ·
          refine Wx_iconst (v := 0) dX11_arm_44 (by decide) ?_
          exact Wx_zreturn dX11_arm_45 rfl (by decide) rfl (⟨by rw [r_arm_30, if_neg h1, if_neg h3, if_neg h5, if_pos h6], by rw [t_arm_30, if_neg h1, if_neg h3, if_neg h5, if_pos h6]⟩)
        ·
          refine Wx_iload1 dX11_arm_36 ?_
          refine Wx_aload0 dX11_arm_37 ?_
          refine Wx_getI 11 3 dX11_arm_38 f_X11_20 rfl (Nat.le_of_ble_eq_true rfl) rfl ?_
          rw [show gI σ 0 3 = (nI u) from eu]
          refine Wx_icmp_le 46 dX11_arm_41 (by decide) (fun h7 => ?_) (fun h7 => ?_)
          ·
            refine Wx_aload0 dX11_arm_46 ?_
            refine Wx_getR 11 13 50 dX11_arm_47 f_X11_83 rfl (Nat.le_of_ble_eq_true rfl) rfl (hR 0 13 50 (by decide)) ?_
            refine Wx_aload0 dX11_arm_50 ?_
            refine Wx_getR 11 12 44 dX11_arm_51 f_X11_76 rfl (Nat.le_of_ble_eq_true rfl) rfl (hR 0 12 44 (by decide)) ?_
            refine Wx_getR 1 0 45 dX11_arm_54 f_X11_169 rfl (Nat.le_of_ble_eq_true rfl) rfl (hR 44 0 45 (by decide)) ?_
            refine Wx_aload0 dX11_arm_57 ?_
            refine Wx_getR 11 9 30 dX11_arm_58 f_X11_55 rfl (Nat.le_of_ble_eq_true rfl) rfl hC ?_
            refine Wx_getI 8 12 dX11_arm_61 f_X11_137 rfl (Nat.le_of_ble_eq_true rfl) rfl ?_
            rw [show gI σ 30 12 = (nI m) from em]
            have c8 := (w_takeC (d + 1) σ m hR hm hBc)
            refine Wx_cVv 50 7 [.ref 45, .int (nI m)] 2 m_X7_takeCode l_X11_178 i_X7_takeCode rfl rfl (show 50 < 122 by decide) dX11_arm_64 c8 (show _ ≤ d + 3 from Nat.le_refl _) (Nat.le_refl _) rfl (Nat.le_of_ble_eq_true rfl) rfl ?_
            clear c8
            refine Wx_aload0 dX11_arm_67 ?_
            refine Wx_getR 11 13 50 dX11_arm_68 f_X11_83 rfl (Nat.le_of_ble_eq_true rfl) rfl ((Rf_of (k_takeC σ m) hR) 0 13 50 (by decide)) ?_
            have c9 := (w_clear (d + 1) (t_takeC σ m) (Rf_of (k_takeC σ m) hR))
            refine Wx_cVv 50 7 [] 0 m_X7_clearData l_X11_182 i_X7_clearData rfl rfl (show 50 < 122 by decide) dX11_arm_71 c9 (show _ ≤ d + 3 from Nat.le_refl _) (Nat.le_refl _) rfl (Nat.le_of_ble_eq_true rfl) rfl ?_
            clear c9
            refine Wx_aload0 dX11_arm_74 ?_
            refine Wx_getR 11 13 50 dX11_arm_75 f_X11_83 rfl (Nat.le_of_ble_eq_true rfl) rfl ((Rf_of (k_clear (t_takeC σ m)) (Rf_of (k_takeC σ m) hR)) 0 13 50 (by decide)) ?_
            refine Wx_aload0 dX11_arm_78 ?_
            refine Wx_getR 11 2 2 dX11_arm_79 f_X11_17 rfl (Nat.le_of_ble_eq_true rfl) rfl ((Rf_of (k_clear (t_takeC σ m)) (Rf_of (k_takeC σ m) hR)) 0 2 2 (by decide)) ?_
            refine Wx_aload0 dX11_arm_82 ?_
            refine Wx_getI 11 3 dX11_arm_83 f_X11_20 rfl (Nat.le_of_ble_eq_true rfl) rfl ?_
            rw [show gI (t_clear (t_takeC σ m)) 0 3 = (nI u) from (by simp only [t_takeC, t_clear, t_fill54, t_fillData, t_fillSets_30, t_wW, gI_rA, gI_pA, gI_pI (show ¬ (0 = 50 ∧ 3 = 3) by decide)]; exact eu)]
            have c10 := (w_fillData (d + 1) (t_clear (t_takeC σ m)) u (Rf_of (k_clear (t_takeC σ m)) (Rf_of (k_takeC σ m) hR)) hu hBs)
            refine Wx_cVv 50 7 [.ref 2, .int (nI u)] 2 m_X7_fillData l_X11_185 i_X7_fillData rfl rfl (show 50 < 122 by decide) dX11_arm_86 c10 (show _ ≤ d + 3 from Nat.le_refl _) (Nat.le_refl _) rfl (Nat.le_of_ble_eq_true rfl) rfl ?_
            clear c10
            refine Wx_aload0 dX11_arm_89 ?_
            refine Wx_getR 11 13 50 dX11_arm_90 f_X11_83 rfl (Nat.le_of_ble_eq_true rfl) rfl ((Rf_of (k_fillData (t_clear (t_takeC σ m)) u) (Rf_of (k_clear (t_takeC σ m)) (Rf_of (k_takeC σ m) hR))) 0 13 50 (by decide)) ?_
            refine Wx_aload0 dX11_arm_93 ?_
            refine Wx_getR 11 9 30 dX11_arm_94 f_X11_55 rfl (Nat.le_of_ble_eq_true rfl) rfl ((gR_of (k_fillData (t_clear (t_takeC σ m)) u)).trans ((gR_of (k_clear (t_takeC σ m))).trans ((gR_of (k_takeC σ m)).trans hC))) ?_
            refine Wx_getR 8 4 35 dX11_arm_97 f_X11_166 rfl (Nat.le_of_ble_eq_true rfl) rfl ((Rf_of (k_fillData (t_clear (t_takeC σ m)) u) (Rf_of (k_clear (t_takeC σ m)) (Rf_of (k_takeC σ m) hR))) 30 4 35 (by decide)) ?_
            refine Wx_aload0 dX11_arm_100 ?_
            refine Wx_getR 11 9 30 dX11_arm_101 f_X11_55 rfl (Nat.le_of_ble_eq_true rfl) rfl ((gR_of (k_fillData (t_clear (t_takeC σ m)) u)).trans ((gR_of (k_clear (t_takeC σ m))).trans ((gR_of (k_takeC σ m)).trans hC))) ?_
            refine Wx_getI 8 11 dX11_arm_104 f_X11_134 rfl (Nat.le_of_ble_eq_true rfl) rfl ?_
            rw [show gI (t_fillData (t_clear (t_takeC σ m)) u) 30 11 = (nI s) from (by simp only [t_takeC, t_clear, t_fill54, t_fillData, t_fillSets_30, t_wW, gI_rA, gI_pA, gI_pI (show ¬ (30 = 50 ∧ 11 = 3) by decide)]; exact es)]
            have c11 := (w_fillSets_30 (d + 1) (t_fillData (t_clear (t_takeC σ m)) u) s (Rf_of (k_fillData (t_clear (t_takeC σ m)) u) (Rf_of (k_clear (t_takeC σ m)) (Rf_of (k_takeC σ m) hR))) hs)
            refine Wx_cVv 50 7 [.ref 35, .int (nI s)] 2 m_X7_fillSets l_X11_188 i_X7_fillSets rfl rfl (show 50 < 122 by decide) dX11_arm_107 c11 (show _ ≤ d + 3 from Nat.le_refl _) (Nat.le_refl _) rfl (Nat.le_of_ble_eq_true rfl) rfl ?_
            clear c11
            refine Wx_aload0 dX11_arm_110 ?_
            refine Wx_getR 11 13 50 dX11_arm_111 f_X11_83 rfl (Nat.le_of_ble_eq_true rfl) rfl ((Rf_of (k_fillSets_30 (t_fillData (t_clear (t_takeC σ m)) u) s) (Rf_of (k_fillData (t_clear (t_takeC σ m)) u) (Rf_of (k_clear (t_takeC σ m)) (Rf_of (k_takeC σ m) hR)))) 0 13 50 (by decide)) ?_
            refine Wx_iload1 dX11_arm_114 ?_
            refine Wx_iload2 dX11_arm_115 ?_
            have c12 := (w_prepare (d + 1) (t_fillSets_30 (t_fillData (t_clear (t_takeC σ m)) u) s) (pl) (sk) (Rf_of (k_fillSets_30 (t_fillData (t_clear (t_takeC σ m)) u) s) (Rf_of (k_fillData (t_clear (t_takeC σ m)) u) (Rf_of (k_clear (t_takeC σ m)) (Rf_of (k_takeC σ m) hR)))))
            refine Wx_cVv 50 7 [.int pl, .int sk] 2 m_X7_prepare l_X11_192 i_X7_prepare rfl rfl (show 50 < 122 by decide) dX11_arm_116 c12 (show _ ≤ d + 3 from Nat.le_refl _) (Nat.le_refl _) rfl (Nat.le_of_ble_eq_true rfl) rfl ?_
            clear c12
            refine Wx_aload0 dX11_arm_119 ?_
            refine Wx_getR 11 14 56 dX11_arm_120 f_X11_90 rfl (Nat.le_of_ble_eq_true rfl) rfl ((Rf_of (k_prepare (t_fillSets_30 (t_fillData (t_clear (t_takeC σ m)) u) s) (pl) (sk)) (Rf_of (k_fillSets_30 (t_fillData (t_clear (t_takeC σ m)) u) s) (Rf_of (k_fillData (t_clear (t_takeC σ m)) u) (Rf_of (k_clear (t_takeC σ m)) (Rf_of (k_takeC σ m) hR))))) 0 14 56 (by decide)) ?_
            have c13 := (w_forget (d + 2) (t_prepare (t_fillSets_30 (t_fillData (t_clear (t_takeC σ m)) u) s) (pl) (sk)))
            refine Wx_cVv 56 2 [] 0 m_X2_forget l_X11_196 i_X2_forget rfl rfl (show 56 < 122 by decide) dX11_arm_123 c13 (show _ ≤ d + 3 from Nat.le_refl _) (Nat.le_refl _) rfl (Nat.le_of_ble_eq_true rfl) rfl ?_
            clear c13
            refine Wx_iconst (v := 1) dX11_arm_126 (by decide) ?_
            exact Wx_zreturn dX11_arm_127 rfl (by decide) rfl (⟨by rw [r_arm_30, if_neg h1, if_neg h3, if_neg h5, if_neg h6, if_pos h7], by rw [t_arm_30, if_neg h1, if_neg h3, if_neg h5, if_neg h6, if_pos h7]⟩)
          ·
            refine Wx_iconst (v := 0) dX11_arm_44 (by decide) ?_
            exact Wx_zreturn dX11_arm_45 rfl (by decide) rfl (⟨by rw [r_arm_30, if_neg h1, if_neg h3, if_neg h5, if_neg h6, if_neg h7], by rw [t_arm_30, if_neg h1, if_neg h3, if_neg h5, if_neg h6, if_neg h7]⟩)
theorem dX14_arm_0 : decode cX14_arm 0 = .ok (.aload_n 0, 1) := by decide +kernel
theorem dX14_arm_1 : decode cX14_arm 1 = .ok (.getfield 535, 3) := by decide +kernel
theorem dX14_arm_4 : decode cX14_arm 4 = .ok (.ifCond .eq 27, 3) := by decide +kernel
theorem dX14_arm_7 : decode cX14_arm 7 = .ok (.iload_n 1, 1) := by decide +kernel
theorem dX14_arm_8 : decode cX14_arm 8 = .ok (.ifCond .lt 23, 3) := by decide +kernel
theorem dX14_arm_11 : decode cX14_arm 11 = .ok (.iload_n 1, 1) := by decide +kernel
theorem dX14_arm_12 : decode cX14_arm 12 = .ok (.aload_n 0, 1) := by decide +kernel
theorem dX14_arm_13 : decode cX14_arm 13 = .ok (.getfield 161, 3) := by decide +kernel
theorem dX14_arm_16 : decode cX14_arm 16 = .ok (.if_icmp .gt 15, 3) := by decide +kernel
theorem dX14_arm_19 : decode cX14_arm 19 = .ok (.iload_n 2, 1) := by decide +kernel
theorem dX14_arm_20 : decode cX14_arm 20 = .ok (.iconst 1, 1) := by decide +kernel
theorem dX14_arm_21 : decode cX14_arm 21 = .ok (.if_icmp .lt 10, 3) := by decide +kernel
theorem dX14_arm_24 : decode cX14_arm 24 = .ok (.iload_n 2, 1) := by decide +kernel
theorem dX14_arm_25 : decode cX14_arm 25 = .ok (.sipush 1000, 3) := by decide +kernel
theorem dX14_arm_28 : decode cX14_arm 28 = .ok (.if_icmp .le 5, 3) := by decide +kernel
theorem dX14_arm_31 : decode cX14_arm 31 = .ok (.iconst 0, 1) := by decide +kernel
theorem dX14_arm_32 : decode cX14_arm 32 = .ok (.ireturn, 1) := by decide +kernel
theorem dX14_arm_33 : decode cX14_arm 33 = .ok (.iconst 0, 1) := by decide +kernel
theorem dX14_arm_34 : decode cX14_arm 34 = .ok (.istore_n 3, 1) := by decide +kernel
theorem dX14_arm_35 : decode cX14_arm 35 = .ok (.iload_n 3, 1) := by decide +kernel
theorem dX14_arm_36 : decode cX14_arm 36 = .ok (.aload_n 0, 1) := by decide +kernel
theorem dX14_arm_37 : decode cX14_arm 37 = .ok (.getfield 89, 3) := by decide +kernel
theorem dX14_arm_40 : decode cX14_arm 40 = .ok (.getfield 507, 3) := by decide +kernel
theorem dX14_arm_43 : decode cX14_arm 43 = .ok (.if_icmp .ge 24, 3) := by decide +kernel
theorem dX14_arm_46 : decode cX14_arm 46 = .ok (.aload_n 0, 1) := by decide +kernel
theorem dX14_arm_47 : decode cX14_arm 47 = .ok (.getfield 118, 3) := by decide +kernel
theorem dX14_arm_50 : decode cX14_arm 50 = .ok (.iload_n 3, 1) := by decide +kernel
theorem dX14_arm_51 : decode cX14_arm 51 = .ok (.aload_n 0, 1) := by decide +kernel
theorem dX14_arm_52 : decode cX14_arm 52 = .ok (.getfield 89, 3) := by decide +kernel
theorem dX14_arm_55 : decode cX14_arm 55 = .ok (.getfield 516, 3) := by decide +kernel
theorem dX14_arm_58 : decode cX14_arm 58 = .ok (.iload_n 3, 1) := by decide +kernel
theorem dX14_arm_59 : decode cX14_arm 59 = .ok (.baload, 1) := by decide +kernel
theorem dX14_arm_60 : decode cX14_arm 60 = .ok (.bastore, 1) := by decide +kernel
theorem dX14_arm_61 : decode cX14_arm 61 = .ok (.iinc 3 1, 3) := by decide +kernel
theorem dX14_arm_64 : decode cX14_arm 64 = .ok (.goto (-29), 3) := by decide +kernel
theorem dX14_arm_67 : decode cX14_arm 67 = .ok (.aload_n 0, 1) := by decide +kernel
theorem dX14_arm_68 : decode cX14_arm 68 = .ok (.aload_n 0, 1) := by decide +kernel
theorem dX14_arm_69 : decode cX14_arm 69 = .ok (.getfield 89, 3) := by decide +kernel
theorem dX14_arm_72 : decode cX14_arm 72 = .ok (.getfield 507, 3) := by decide +kernel
theorem dX14_arm_75 : decode cX14_arm 75 = .ok (.putfield 538, 3) := by decide +kernel
theorem dX14_arm_78 : decode cX14_arm 78 = .ok (.iconst 0, 1) := by decide +kernel
theorem dX14_arm_79 : decode cX14_arm 79 = .ok (.istore_n 3, 1) := by decide +kernel
theorem dX14_arm_80 : decode cX14_arm 80 = .ok (.iload_n 3, 1) := by decide +kernel
theorem dX14_arm_81 : decode cX14_arm 81 = .ok (.ldc 121, 2) := by decide +kernel
theorem dX14_arm_83 : decode cX14_arm 83 = .ok (.if_icmp .ge 16, 3) := by decide +kernel
theorem dX14_arm_86 : decode cX14_arm 86 = .ok (.aload_n 0, 1) := by decide +kernel
theorem dX14_arm_87 : decode cX14_arm 87 = .ok (.getfield 122, 3) := by decide +kernel
theorem dX14_arm_90 : decode cX14_arm 90 = .ok (.iload_n 3, 1) := by decide +kernel
theorem dX14_arm_91 : decode cX14_arm 91 = .ok (.iconst 0, 1) := by decide +kernel
theorem dX14_arm_92 : decode cX14_arm 92 = .ok (.bastore, 1) := by decide +kernel
theorem dX14_arm_93 : decode cX14_arm 93 = .ok (.iinc 3 1, 3) := by decide +kernel
theorem dX14_arm_96 : decode cX14_arm 96 = .ok (.goto (-16), 3) := by decide +kernel
theorem dX14_arm_99 : decode cX14_arm 99 = .ok (.iconst 0, 1) := by decide +kernel
theorem dX14_arm_100 : decode cX14_arm 100 = .ok (.istore_n 3, 1) := by decide +kernel
theorem dX14_arm_101 : decode cX14_arm 101 = .ok (.iload_n 3, 1) := by decide +kernel
theorem dX14_arm_102 : decode cX14_arm 102 = .ok (.aload_n 0, 1) := by decide +kernel
theorem dX14_arm_103 : decode cX14_arm 103 = .ok (.getfield 161, 3) := by decide +kernel
theorem dX14_arm_106 : decode cX14_arm 106 = .ok (.if_icmp .ge 21, 3) := by decide +kernel
theorem dX14_arm_109 : decode cX14_arm 109 = .ok (.aload_n 0, 1) := by decide +kernel
theorem dX14_arm_110 : decode cX14_arm 110 = .ok (.getfield 122, 3) := by decide +kernel
theorem dX14_arm_113 : decode cX14_arm 113 = .ok (.iload_n 3, 1) := by decide +kernel
theorem dX14_arm_114 : decode cX14_arm 114 = .ok (.aload_n 0, 1) := by decide +kernel
theorem dX14_arm_115 : decode cX14_arm 115 = .ok (.getfield 20, 3) := by decide +kernel
theorem dX14_arm_118 : decode cX14_arm 118 = .ok (.iload_n 3, 1) := by decide +kernel
theorem dX14_arm_119 : decode cX14_arm 119 = .ok (.baload, 1) := by decide +kernel
theorem dX14_arm_120 : decode cX14_arm 120 = .ok (.bastore, 1) := by decide +kernel
theorem dX14_arm_121 : decode cX14_arm 121 = .ok (.iinc 3 1, 3) := by decide +kernel
theorem dX14_arm_124 : decode cX14_arm 124 = .ok (.goto (-23), 3) := by decide +kernel
theorem dX14_arm_127 : decode cX14_arm 127 = .ok (.iconst 0, 1) := by decide +kernel
theorem dX14_arm_128 : decode cX14_arm 128 = .ok (.istore_n 3, 1) := by decide +kernel
theorem dX14_arm_129 : decode cX14_arm 129 = .ok (.iload_n 3, 1) := by decide +kernel
theorem dX14_arm_130 : decode cX14_arm 130 = .ok (.bipush 8, 2) := by decide +kernel
theorem dX14_arm_132 : decode cX14_arm 132 = .ok (.aload_n 0, 1) := by decide +kernel
theorem dX14_arm_133 : decode cX14_arm 133 = .ok (.getfield 89, 3) := by decide +kernel
theorem dX14_arm_136 : decode cX14_arm 136 = .ok (.getfield 380, 3) := by decide +kernel
theorem dX14_arm_139 : decode cX14_arm 139 = .ok (.imul, 1) := by decide +kernel
theorem dX14_arm_140 : decode cX14_arm 140 = .ok (.if_icmp .ge 29, 3) := by decide +kernel
theorem dX14_arm_143 : decode cX14_arm 143 = .ok (.aload_n 0, 1) := by decide +kernel
theorem dX14_arm_144 : decode cX14_arm 144 = .ok (.ldc_w 782, 3) := by decide +kernel
theorem dX14_arm_147 : decode cX14_arm 147 = .ok (.iconst 4, 1) := by decide +kernel
theorem dX14_arm_148 : decode cX14_arm 148 = .ok (.iload_n 3, 1) := by decide +kernel
theorem dX14_arm_149 : decode cX14_arm 149 = .ok (.imul, 1) := by decide +kernel
theorem dX14_arm_150 : decode cX14_arm 150 = .ok (.iadd, 1) := by decide +kernel
theorem dX14_arm_151 : decode cX14_arm 151 = .ok (.aload_n 0, 1) := by decide +kernel
theorem dX14_arm_152 : decode cX14_arm 152 = .ok (.getfield 89, 3) := by decide +kernel
theorem dX14_arm_155 : decode cX14_arm 155 = .ok (.getfield 382, 3) := by decide +kernel
theorem dX14_arm_158 : decode cX14_arm 158 = .ok (.iload_n 3, 1) := by decide +kernel
theorem dX14_arm_159 : decode cX14_arm 159 = .ok (.iaload, 1) := by decide +kernel
theorem dX14_arm_160 : decode cX14_arm 160 = .ok (.invokevirtual 648, 3) := by decide +kernel
theorem dX14_arm_163 : decode cX14_arm 163 = .ok (.iinc 3 1, 3) := by decide +kernel
theorem dX14_arm_166 : decode cX14_arm 166 = .ok (.goto (-37), 3) := by decide +kernel
theorem dX14_arm_169 : decode cX14_arm 169 = .ok (.aload_n 0, 1) := by decide +kernel
theorem dX14_arm_170 : decode cX14_arm 170 = .ok (.ldc_w 410, 3) := by decide +kernel
theorem dX14_arm_173 : decode cX14_arm 173 = .ok (.aload_n 0, 1) := by decide +kernel
theorem dX14_arm_174 : decode cX14_arm 174 = .ok (.getfield 161, 3) := by decide +kernel
theorem dX14_arm_177 : decode cX14_arm 177 = .ok (.invokevirtual 648, 3) := by decide +kernel
theorem dX14_arm_180 : decode cX14_arm 180 = .ok (.iconst 0, 1) := by decide +kernel
theorem dX14_arm_181 : decode cX14_arm 181 = .ok (.istore_n 3, 1) := by decide +kernel
theorem dX14_arm_182 : decode cX14_arm 182 = .ok (.iload_n 3, 1) := by decide +kernel
theorem dX14_arm_183 : decode cX14_arm 183 = .ok (.bipush 8, 2) := by decide +kernel
theorem dX14_arm_185 : decode cX14_arm 185 = .ok (.if_icmp .ge 16, 3) := by decide +kernel
theorem dX14_arm_188 : decode cX14_arm 188 = .ok (.aload_n 0, 1) := by decide +kernel
theorem dX14_arm_189 : decode cX14_arm 189 = .ok (.getfield 125, 3) := by decide +kernel
theorem dX14_arm_192 : decode cX14_arm 192 = .ok (.iload_n 3, 1) := by decide +kernel
theorem dX14_arm_193 : decode cX14_arm 193 = .ok (.iconst 0, 1) := by decide +kernel
theorem dX14_arm_194 : decode cX14_arm 194 = .ok (.iastore, 1) := by decide +kernel
theorem dX14_arm_195 : decode cX14_arm 195 = .ok (.iinc 3 1, 3) := by decide +kernel
theorem dX14_arm_198 : decode cX14_arm 198 = .ok (.goto (-16), 3) := by decide +kernel
theorem dX14_arm_201 : decode cX14_arm 201 = .ok (.aload_n 0, 1) := by decide +kernel
theorem dX14_arm_202 : decode cX14_arm 202 = .ok (.getfield 125, 3) := by decide +kernel
theorem dX14_arm_205 : decode cX14_arm 205 = .ok (.iconst 3, 1) := by decide +kernel
theorem dX14_arm_206 : decode cX14_arm 206 = .ok (.iload_n 1, 1) := by decide +kernel
theorem dX14_arm_207 : decode cX14_arm 207 = .ok (.iastore, 1) := by decide +kernel
theorem dX14_arm_208 : decode cX14_arm 208 = .ok (.aload_n 0, 1) := by decide +kernel
theorem dX14_arm_209 : decode cX14_arm 209 = .ok (.getfield 125, 3) := by decide +kernel
theorem dX14_arm_212 : decode cX14_arm 212 = .ok (.bipush 6, 2) := by decide +kernel
theorem dX14_arm_214 : decode cX14_arm 214 = .ok (.sipush 12288, 3) := by decide +kernel
theorem dX14_arm_217 : decode cX14_arm 217 = .ok (.iastore, 1) := by decide +kernel
theorem dX14_arm_218 : decode cX14_arm 218 = .ok (.aload_n 0, 1) := by decide +kernel
theorem dX14_arm_219 : decode cX14_arm 219 = .ok (.getfield 125, 3) := by decide +kernel
theorem dX14_arm_222 : decode cX14_arm 222 = .ok (.bipush 7, 2) := by decide +kernel
theorem dX14_arm_224 : decode cX14_arm 224 = .ok (.sipush 28672, 3) := by decide +kernel
theorem dX14_arm_227 : decode cX14_arm 227 = .ok (.iastore, 1) := by decide +kernel
theorem dX14_arm_228 : decode cX14_arm 228 = .ok (.aload_n 0, 1) := by decide +kernel
theorem dX14_arm_229 : decode cX14_arm 229 = .ok (.getfield 125, 3) := by decide +kernel
theorem dX14_arm_232 : decode cX14_arm 232 = .ok (.iconst 5, 1) := by decide +kernel
theorem dX14_arm_233 : decode cX14_arm 233 = .ok (.iload_n 2, 1) := by decide +kernel
theorem dX14_arm_234 : decode cX14_arm 234 = .ok (.iastore, 1) := by decide +kernel
theorem dX14_arm_235 : decode cX14_arm 235 = .ok (.aload_n 0, 1) := by decide +kernel
theorem dX14_arm_236 : decode cX14_arm 236 = .ok (.iconst 0, 1) := by decide +kernel
theorem dX14_arm_237 : decode cX14_arm 237 = .ok (.putfield 651, 3) := by decide +kernel
theorem dX14_arm_240 : decode cX14_arm 240 = .ok (.aload_n 0, 1) := by decide +kernel
theorem dX14_arm_241 : decode cX14_arm 241 = .ok (.ldc 121, 2) := by decide +kernel
theorem dX14_arm_243 : decode cX14_arm 243 = .ok (.putfield 128, 3) := by decide +kernel
theorem dX14_arm_246 : decode cX14_arm 246 = .ok (.aload_n 0, 1) := by decide +kernel
theorem dX14_arm_247 : decode cX14_arm 247 = .ok (.iconst 0, 1) := by decide +kernel
theorem dX14_arm_248 : decode cX14_arm 248 = .ok (.putfield 693, 3) := by decide +kernel
theorem dX14_arm_251 : decode cX14_arm 251 = .ok (.iconst 1, 1) := by decide +kernel
theorem dX14_arm_252 : decode cX14_arm 252 = .ok (.ireturn, 1) := by decide +kernel
def r_armM_87 (σ : Hp) (pl : Int32) (sk : Int32) (m u s : Nat) : Int32 := (if (gI σ 66 35) = 0 then 0 else (if pl < 0 then 0 else (if (nI u) < pl then 0 else (if sk < 1 then 0 else (if sk ≤ 1000 then 1 else 0)))))
def t_armM_87 (σ : Hp) (pl : Int32) (sk : Int32) (m u s : Nat) : Hp := (if (gI σ 66 35) = 0 then σ else (if pl < 0 then σ else (if (nI u) < pl then σ else (if sk < 1 then σ else (if sk ≤ 1000 then (pI (pI (pI (pA (pA (pA (pA (rA (t_wWM (rA (rA (rA (pI (rA σ 111 (cpy (fun j => ((gA σ 93) j).toInt8.toInt32) (gA σ 111) m)) 66 50 (nI m)) 112 (cpy (fun _ => (0 : Int32).toInt8.toInt32) (gA σ 112) 65536)) 112 (cpy (fun j => ((gA σ 69) j).toInt8.toInt32) (cpy (fun _ => (0 : Int32).toInt8.toInt32) (gA σ 112) 65536) u)) 112 (wrS (cpy (fun j => ((gA σ 69) j).toInt8.toInt32) (cpy (fun _ => (0 : Int32).toInt8.toInt32) (gA σ 112) 65536) u) (gA σ 92) (8 * s))) (8192) ((nI u))) 113 (cpy (fun _ => (0 : Int32)) (gA (t_wWM (rA (rA (rA (pI (rA σ 111 (cpy (fun j => ((gA σ 93) j).toInt8.toInt32) (gA σ 111) m)) 66 50 (nI m)) 112 (cpy (fun _ => (0 : Int32).toInt8.toInt32) (gA σ 112) 65536)) 112 (cpy (fun j => ((gA σ 69) j).toInt8.toInt32) (cpy (fun _ => (0 : Int32).toInt8.toInt32) (gA σ 112) 65536) u)) 112 (wrS (cpy (fun j => ((gA σ 69) j).toInt8.toInt32) (cpy (fun _ => (0 : Int32).toInt8.toInt32) (gA σ 112) 65536) u) (gA σ 92) (8 * s))) (8192) ((nI u))) 113) 8)) 113 3 pl) 113 6 12288) 113 7 28672) 113 5 sk) 66 53 0) 66 54 65536) 66 55 0) else σ)))))
theorem k_armM_87 (σ : Hp) (pl : Int32) (sk : Int32) (m u s : Nat) : (t_armM_87 σ pl sk m u s).2.1 = σ.2.1 := by
  unfold t_armM_87
  simp only [apply_ite Prod.snd, apply_ite (Prod.fst (α := Nat → Nat → Option Nat) (β := (Nat → Nat → Int32) × (Nat → Nat → Int64))), k_wWM, R_pI, R_pA, R_pL, R_rA, ite_self]
theorem w_armM_87 (d : Nat) (σ : Hp) (pl : Int32) (sk : Int32) (m u s : Nat) (hR : Rf σ) (hC : gR σ 66 34 = some 87) (em : gI σ 87 4 = nI m) (eu : gI σ 66 4 = nI u) (es : gI σ 87 3 = nI s) (hm : m ≤ 61440) (hu : u ≤ 4000) (hs : s ≤ 128) : Cx yX14_arm cX14_arm 4 (some .boolean) (d + 1) 122 122 [.ref 66, .int pl, .int sk] σ (fun o τ => o = .inl (some (.int (r_armM_87 σ pl sk m u s))) ∧ τ = t_armM_87 σ pl sk m u s) := by
  refine Cx_of RX14 false (by decide) rfl (fun q => by cases q) (Nat.le_refl _) rfl (Nat.le_of_ble_eq_true rfl) ?_
  refine Wx_aload0 dX14_arm_0 ?_
  refine Wx_getI 14 35 dX14_arm_1 f_X14_535 rfl (Nat.le_of_ble_eq_true rfl) rfl ?_
  refine Wx_if_eq 31 dX14_arm_4 (by decide) (fun h1 => ?_) (fun h1 => ?_)
  ·
    refine Wx_iconst (v := 0) dX14_arm_31 (by decide) ?_
    exact Wx_zreturn dX14_arm_32 rfl (by decide) rfl (⟨by rw [r_armM_87, if_pos h1], by rw [t_armM_87, if_pos h1]⟩)
  ·
    refine Wx_iload1 dX14_arm_7 ?_
    refine Wx_if_lt 31 dX14_arm_8 (by decide) (fun h2 => ?_) (fun h2 => ?_)
    ·
      refine Wx_iconst (v := 0) dX14_arm_31 (by decide) ?_
      exact Wx_zreturn dX14_arm_32 rfl (by decide) rfl (⟨by rw [r_armM_87, if_neg h1, if_pos h2], by rw [t_armM_87, if_neg h1, if_pos h2]⟩)
    ·
      refine Wx_iload1 dX14_arm_11 ?_
      refine Wx_aload0 dX14_arm_12 ?_
      refine Wx_getI 14 4 dX14_arm_13 f_X14_161 rfl (Nat.le_of_ble_eq_true rfl) rfl ?_
      rw [show gI σ 66 4 = (nI u) from eu]
      refine Wx_icmp_gt 31 dX14_arm_16 (by decide) (fun h3 => ?_) (fun h3 => ?_)
      ·
        refine Wx_iconst (v := 0) dX14_arm_31 (by decide) ?_
        exact Wx_zreturn dX14_arm_32 rfl (by decide) rfl (⟨by rw [r_armM_87, if_neg h1, if_neg h2, if_pos h3], by rw [t_armM_87, if_neg h1, if_neg h2, if_pos h3]⟩)
      ·
        refine Wx_iload2 dX14_arm_19 ?_
        refine Wx_iconst (v := 1) dX14_arm_20 (by decide) ?_
        refine Wx_icmp_lt 31 dX14_arm_21 (by decide) (fun h4 => ?_) (fun h4 => ?_)
        ·
          refine Wx_iconst (v := 0) dX14_arm_31 (by decide) ?_
          exact Wx_zreturn dX14_arm_32 rfl (by decide) rfl (⟨by rw [r_armM_87, if_neg h1, if_neg h2, if_neg h3, if_pos h4], by rw [t_armM_87, if_neg h1, if_neg h2, if_neg h3, if_pos h4]⟩)
        ·
          refine Wx_iload2 dX14_arm_24 ?_
          refine Wx_sipush (v := 1000) dX14_arm_25 (by decide) ?_
          refine Wx_icmp_le 33 dX14_arm_28 (by decide) (fun h5 => ?_) (fun h5 => ?_)
          ·
            refine Wx_iconst (v := 0) dX14_arm_33 (by decide) ?_
            refine Wx_istore3 dX14_arm_34 rfl (Nat.le_of_ble_eq_true rfl) ?_
            refine Wx_eq (show σ = (rA σ 111 (cpy (fun j => ((gA σ 93) j).toInt8.toInt32) (gA σ 111) 0)) from rA_cpy0r σ 111 _ rfl) ?_
            refine Wx_count (fun k1 => [.ref 66, .int pl, .int sk, .int (nI k1)]) [] (fun k1 => (rA σ 111 (cpy (fun j => ((gA σ 93) j).toInt8.toInt32) (gA σ 111) k1))) 0 m ?_ ?_ (by omega)
            · intro k1 hk1a hk1b Kk1
              refine Wx_iload3 dX14_arm_35 ?_
              refine Wx_aload0 dX14_arm_36 ?_
              refine Wx_getR 14 34 87 dX14_arm_37 f_X14_89 rfl (Nat.le_of_ble_eq_true rfl) rfl (gR_rA.trans hC) ?_
              refine Wx_getI 13 4 dX14_arm_40 f_X14_507 rfl (Nat.le_of_ble_eq_true rfl) rfl ?_
              rw [show gI (rA σ 111 (cpy (fun j => ((gA σ 93) j).toInt8.toInt32) (gA σ 111) k1)) 87 4 = (nI m) from (gI_rA.trans em)]
              refine Wx_icmp_ge 67 dX14_arm_43 (by decide) (fun h => absurd h (fun q => absurd ((cLe (a := m) (b := k1) rfl rfl (by omega) (by omega)).mp q) (by omega))) (fun _ => ?_)
              refine Wx_aload0 dX14_arm_46 ?_
              refine Wx_getR 14 49 111 dX14_arm_47 f_X14_118 rfl (Nat.le_of_ble_eq_true rfl) rfl ((Rf_rA hR) 66 49 111 (by decide)) ?_
              refine Wx_iload3 dX14_arm_50 ?_
              refine Wx_aload0 dX14_arm_51 ?_
              refine Wx_getR 14 34 87 dX14_arm_52 f_X14_89 rfl (Nat.le_of_ble_eq_true rfl) rfl (gR_rA.trans hC) ?_
              refine Wx_getR 13 10 93 dX14_arm_55 f_X14_516 rfl (Nat.le_of_ble_eq_true rfl) rfl ((Rf_rA hR) 87 10 93 (by decide)) ?_
              refine Wx_iload3 dX14_arm_58 ?_
              refine Wx_baload 61440 dX14_arm_59 rfl (Nat.le_of_ble_eq_true rfl) (vp_in_nI (show k1 < 61440 by omega) (by decide)) ?_
              rw [show ((nI k1) : Int32).toNatClampNeg = k1 from nI_clamp (by omega)]
              refine Wx_bastore 61440 dX14_arm_60 rfl (Nat.le_of_ble_eq_true rfl) (vp_in_nI (show k1 < 61440 by omega) (by decide)) ?_
              rw [show ((nI k1) : Int32).toNatClampNeg = k1 from nI_clamp (by omega)]
              refine Wx_iinc3 dX14_arm_61 rfl (Nat.le_of_ble_eq_true rfl) ?_
              rw [show (((nI k1) : Int32) + Int32.ofInt 1) = nI (k1 + 1) from addE (a := k1) (b := 1) rfl rfl (by omega)]
              refine Wx_goto 35 dX14_arm_64 (by decide) ?_
              refine Wx_eq (show (pA (rA σ 111 (cpy (fun j => ((gA σ 93) j).toInt8.toInt32) (gA σ 111) k1)) 111 k1 ((gA (rA σ 111 (cpy (fun j => ((gA σ 93) j).toInt8.toInt32) (gA σ 111) k1)) 93 k1) : Int32).toInt8.toInt32) = (rA σ 111 (cpy (fun j => ((gA σ 93) j).toInt8.toInt32) (gA σ 111) (k1 + 1))) from pA_cpy σ 111 k1 _ _ rfl) ?_
              exact Kk1
            ·
              refine Wx_iload3 dX14_arm_35 ?_
              refine Wx_aload0 dX14_arm_36 ?_
              refine Wx_getR 14 34 87 dX14_arm_37 f_X14_89 rfl (Nat.le_of_ble_eq_true rfl) rfl (gR_rA.trans hC) ?_
              refine Wx_getI 13 4 dX14_arm_40 f_X14_507 rfl (Nat.le_of_ble_eq_true rfl) rfl ?_
              rw [show gI (rA σ 111 (cpy (fun j => ((gA σ 93) j).toInt8.toInt32) (gA σ 111) m)) 87 4 = (nI m) from (gI_rA.trans em)]
              refine Wx_icmp_ge 67 dX14_arm_43 (by decide) (fun _ => ?_) (fun h => absurd ((cLe (a := m) (b := m) rfl rfl (by omega) (by omega)).mpr (by omega)) h)
              refine Wx_aload0 dX14_arm_67 ?_
              refine Wx_aload0 dX14_arm_68 ?_
              refine Wx_getR 14 34 87 dX14_arm_69 f_X14_89 rfl (Nat.le_of_ble_eq_true rfl) rfl (gR_rA.trans hC) ?_
              refine Wx_getI 13 4 dX14_arm_72 f_X14_507 rfl (Nat.le_of_ble_eq_true rfl) rfl ?_
              rw [show gI (rA σ 111 (cpy (fun j => ((gA σ 93) j).toInt8.toInt32) (gA σ 111) m)) 87 4 = (nI m) from (gI_rA.trans em)]
              refine Wx_putI 14 50 dX14_arm_75 f_X14_538 rfl (Nat.le_of_ble_eq_true rfl) rfl rfl ?_
              refine Wx_iconst (v := 0) dX14_arm_78 (by decide) ?_
              refine Wx_istore3 dX14_arm_79 rfl (Nat.le_of_ble_eq_true rfl) ?_
              refine Wx_eq (show (pI (rA σ 111 (cpy (fun j => ((gA σ 93) j).toInt8.toInt32) (gA σ 111) m)) 66 50 (nI m)) = (rA (pI (rA σ 111 (cpy (fun j => ((gA σ 93) j).toInt8.toInt32) (gA σ 111) m)) 66 50 (nI m)) 112 (cpy (fun _ => (0 : Int32).toInt8.toInt32) (gA σ 112) 0)) from rA_cpy0r (pI (rA σ 111 (cpy (fun j => ((gA σ 93) j).toInt8.toInt32) (gA σ 111) m)) 66 50 (nI m)) 112 _ rfl) ?_
              refine Wx_count (fun k2 => [.ref 66, .int pl, .int sk, .int (nI k2)]) [] (fun k2 => (rA (pI (rA σ 111 (cpy (fun j => ((gA σ 93) j).toInt8.toInt32) (gA σ 111) m)) 66 50 (nI m)) 112 (cpy (fun _ => (0 : Int32).toInt8.toInt32) (gA σ 112) k2))) 0 65536 ?_ ?_ (by omega)
              · intro k2 hk2a hk2b Kk2
                refine Wx_iload3 dX14_arm_80 ?_
                refine Wx_ldc dX14_arm_81 k_X14_121 ?_
                refine Wx_icmp_ge 99 dX14_arm_83 (by decide) (fun h => absurd h (fun q => absurd ((cLe (a := 65536) (b := k2) rfl rfl (by omega) (by omega)).mp q) (by omega))) (fun _ => ?_)
                refine Wx_aload0 dX14_arm_86 ?_
                refine Wx_getR 14 51 112 dX14_arm_87 f_X14_122 rfl (Nat.le_of_ble_eq_true rfl) rfl ((Rf_rA (Rf_pI (Rf_rA hR))) 66 51 112 (by decide)) ?_
                refine Wx_iload3 dX14_arm_90 ?_
                refine Wx_iconst (v := 0) dX14_arm_91 (by decide) ?_
                refine Wx_bastore 65536 dX14_arm_92 rfl (Nat.le_of_ble_eq_true rfl) (vp_in_nI (show k2 < 65536 by omega) (by decide)) ?_
                rw [show ((nI k2) : Int32).toNatClampNeg = k2 from nI_clamp (by omega)]
                refine Wx_iinc3 dX14_arm_93 rfl (Nat.le_of_ble_eq_true rfl) ?_
                rw [show (((nI k2) : Int32) + Int32.ofInt 1) = nI (k2 + 1) from addE (a := k2) (b := 1) rfl rfl (by omega)]
                refine Wx_goto 80 dX14_arm_96 (by decide) ?_
                refine Wx_eq (show (pA (rA (pI (rA σ 111 (cpy (fun j => ((gA σ 93) j).toInt8.toInt32) (gA σ 111) m)) 66 50 (nI m)) 112 (cpy (fun _ => (0 : Int32).toInt8.toInt32) (gA σ 112) k2)) 112 k2 (0 : Int32).toInt8.toInt32) = (rA (pI (rA σ 111 (cpy (fun j => ((gA σ 93) j).toInt8.toInt32) (gA σ 111) m)) 66 50 (nI m)) 112 (cpy (fun _ => (0 : Int32).toInt8.toInt32) (gA σ 112) (k2 + 1))) from pA_cpy (pI (rA σ 111 (cpy (fun j => ((gA σ 93) j).toInt8.toInt32) (gA σ 111) m)) 66 50 (nI m)) 112 k2 _ _ rfl) ?_
                exact Kk2
              ·
                refine Wx_iload3 dX14_arm_80 ?_
                refine Wx_ldc dX14_arm_81 k_X14_121 ?_
                refine Wx_icmp_ge 99 dX14_arm_83 (by decide) (fun _ => ?_) (fun h => absurd ((cLe (a := 65536) (b := 65536) rfl rfl (by omega) (by omega)).mpr (by omega)) h)
                refine Wx_iconst (v := 0) dX14_arm_99 (by decide) ?_
                refine Wx_istore3 dX14_arm_100 rfl (Nat.le_of_ble_eq_true rfl) ?_
                refine Wx_eq (show (rA (pI (rA σ 111 (cpy (fun j => ((gA σ 93) j).toInt8.toInt32) (gA σ 111) m)) 66 50 (nI m)) 112 (cpy (fun _ => (0 : Int32).toInt8.toInt32) (gA σ 112) 65536)) = (rA (rA (pI (rA σ 111 (cpy (fun j => ((gA σ 93) j).toInt8.toInt32) (gA σ 111) m)) 66 50 (nI m)) 112 (cpy (fun _ => (0 : Int32).toInt8.toInt32) (gA σ 112) 65536)) 112 (cpy (fun j => ((gA σ 69) j).toInt8.toInt32) (cpy (fun _ => (0 : Int32).toInt8.toInt32) (gA σ 112) 65536) 0)) from rA_cpy0r (rA (pI (rA σ 111 (cpy (fun j => ((gA σ 93) j).toInt8.toInt32) (gA σ 111) m)) 66 50 (nI m)) 112 (cpy (fun _ => (0 : Int32).toInt8.toInt32) (gA σ 112) 65536)) 112 _ rfl) ?_
                refine Wx_count (fun k3 => [.ref 66, .int pl, .int sk, .int (nI k3)]) [] (fun k3 => (rA (rA (pI (rA σ 111 (cpy (fun j => ((gA σ 93) j).toInt8.toInt32) (gA σ 111) m)) 66 50 (nI m)) 112 (cpy (fun _ => (0 : Int32).toInt8.toInt32) (gA σ 112) 65536)) 112 (cpy (fun j => ((gA σ 69) j).toInt8.toInt32) (cpy (fun _ => (0 : Int32).toInt8.toInt32) (gA σ 112) 65536) k3))) 0 u ?_ ?_ (by omega)
                · intro k3 hk3a hk3b Kk3
                  refine Wx_iload3 dX14_arm_101 ?_
                  refine Wx_aload0 dX14_arm_102 ?_
                  refine Wx_getI 14 4 dX14_arm_103 f_X14_161 rfl (Nat.le_of_ble_eq_true rfl) rfl ?_
                  rw [show gI (rA (rA (pI (rA σ 111 (cpy (fun j => ((gA σ 93) j).toInt8.toInt32) (gA σ 111) m)) 66 50 (nI m)) 112 (cpy (fun _ => (0 : Int32).toInt8.toInt32) (gA σ 112) 65536)) 112 (cpy (fun j => ((gA σ 69) j).toInt8.toInt32) (cpy (fun _ => (0 : Int32).toInt8.toInt32) (gA σ 112) 65536) k3)) 66 4 = (nI u) from (gI_rA.trans (gI_rA.trans ((gI_pI (by decide)).trans (gI_rA.trans eu))))]
                  refine Wx_icmp_ge 127 dX14_arm_106 (by decide) (fun h => absurd h (fun q => absurd ((cLe (a := u) (b := k3) rfl rfl (by omega) (by omega)).mp q) (by omega))) (fun _ => ?_)
                  refine Wx_aload0 dX14_arm_109 ?_
                  refine Wx_getR 14 51 112 dX14_arm_110 f_X14_122 rfl (Nat.le_of_ble_eq_true rfl) rfl ((Rf_rA (Rf_rA (Rf_pI (Rf_rA hR)))) 66 51 112 (by decide)) ?_
                  refine Wx_iload3 dX14_arm_113 ?_
                  refine Wx_aload0 dX14_arm_114 ?_
                  refine Wx_getR 14 3 69 dX14_arm_115 f_X14_20 rfl (Nat.le_of_ble_eq_true rfl) rfl ((Rf_rA (Rf_rA (Rf_pI (Rf_rA hR)))) 66 3 69 (by decide)) ?_
                  refine Wx_iload3 dX14_arm_118 ?_
                  refine Wx_baload 4000 dX14_arm_119 rfl (Nat.le_of_ble_eq_true rfl) (vp_in_nI (show k3 < 4000 by omega) (by decide)) ?_
                  rw [show ((nI k3) : Int32).toNatClampNeg = k3 from nI_clamp (by omega)]
                  refine Wx_bastore 65536 dX14_arm_120 rfl (Nat.le_of_ble_eq_true rfl) (vp_in_nI (show k3 < 65536 by omega) (by decide)) ?_
                  rw [show ((nI k3) : Int32).toNatClampNeg = k3 from nI_clamp (by omega)]
                  refine Wx_iinc3 dX14_arm_121 rfl (Nat.le_of_ble_eq_true rfl) ?_
                  rw [show (((nI k3) : Int32) + Int32.ofInt 1) = nI (k3 + 1) from addE (a := k3) (b := 1) rfl rfl (by omega)]
                  refine Wx_goto 101 dX14_arm_124 (by decide) ?_
                  refine Wx_eq (show (pA (rA (rA (pI (rA σ 111 (cpy (fun j => ((gA σ 93) j).toInt8.toInt32) (gA σ 111) m)) 66 50 (nI m)) 112 (cpy (fun _ => (0 : Int32).toInt8.toInt32) (gA σ 112) 65536)) 112 (cpy (fun j => ((gA σ 69) j).toInt8.toInt32) (cpy (fun _ => (0 : Int32).toInt8.toInt32) (gA σ 112) 65536) k3)) 112 k3 ((gA (rA (rA (pI (rA σ 111 (cpy (fun j => ((gA σ 93) j).toInt8.toInt32) (gA σ 111) m)) 66 50 (nI m)) 112 (cpy (fun _ => (0 : Int32).toInt8.toInt32) (gA σ 112) 65536)) 112 (cpy (fun j => ((gA σ 69) j).toInt8.toInt32) (cpy (fun _ => (0 : Int32).toInt8.toInt32) (gA σ 112) 65536) k3)) 69 k3) : Int32).toInt8.toInt32) = (rA (rA (pI (rA σ 111 (cpy (fun j => ((gA σ 93) j).toInt8.toInt32) (gA σ 111) m)) 66 50 (nI m)) 112 (cpy (fun _ => (0 : Int32).toInt8.toInt32) (gA σ 112) 65536)) 112 (cpy (fun j => ((gA σ 69) j).toInt8.toInt32) (cpy (fun _ => (0 : Int32).toInt8.toInt32) (gA σ 112) 65536) (k3 + 1))) from pA_cpy (rA (pI (rA σ 111 (cpy (fun j => ((gA σ 93) j).toInt8.toInt32) (gA σ 111) m)) 66 50 (nI m)) 112 (cpy (fun _ => (0 : Int32).toInt8.toInt32) (gA σ 112) 65536)) 112 k3 _ _ rfl) ?_
                  exact Kk3
                ·
                  refine Wx_iload3 dX14_arm_101 ?_
                  refine Wx_aload0 dX14_arm_102 ?_
                  refine Wx_getI 14 4 dX14_arm_103 f_X14_161 rfl (Nat.le_of_ble_eq_true rfl) rfl ?_
                  rw [show gI (rA (rA (pI (rA σ 111 (cpy (fun j => ((gA σ 93) j).toInt8.toInt32) (gA σ 111) m)) 66 50 (nI m)) 112 (cpy (fun _ => (0 : Int32).toInt8.toInt32) (gA σ 112) 65536)) 112 (cpy (fun j => ((gA σ 69) j).toInt8.toInt32) (cpy (fun _ => (0 : Int32).toInt8.toInt32) (gA σ 112) 65536) u)) 66 4 = (nI u) from (gI_rA.trans (gI_rA.trans ((gI_pI (by decide)).trans (gI_rA.trans eu))))]
                  refine Wx_icmp_ge 127 dX14_arm_106 (by decide) (fun _ => ?_) (fun h => absurd ((cLe (a := u) (b := u) rfl rfl (by omega) (by omega)).mpr (by omega)) h)
                  refine Wx_iconst (v := 0) dX14_arm_127 (by decide) ?_
                  refine Wx_istore3 dX14_arm_128 rfl (Nat.le_of_ble_eq_true rfl) ?_
                  refine Wx_eq (show (rA (rA (pI (rA σ 111 (cpy (fun j => ((gA σ 93) j).toInt8.toInt32) (gA σ 111) m)) 66 50 (nI m)) 112 (cpy (fun _ => (0 : Int32).toInt8.toInt32) (gA σ 112) 65536)) 112 (cpy (fun j => ((gA σ 69) j).toInt8.toInt32) (cpy (fun _ => (0 : Int32).toInt8.toInt32) (gA σ 112) 65536) u)) = (rA (rA (rA (pI (rA σ 111 (cpy (fun j => ((gA σ 93) j).toInt8.toInt32) (gA σ 111) m)) 66 50 (nI m)) 112 (cpy (fun _ => (0 : Int32).toInt8.toInt32) (gA σ 112) 65536)) 112 (cpy (fun j => ((gA σ 69) j).toInt8.toInt32) (cpy (fun _ => (0 : Int32).toInt8.toInt32) (gA σ 112) 65536) u)) 112 (wrS (cpy (fun j => ((gA σ 69) j).toInt8.toInt32) (cpy (fun _ => (0 : Int32).toInt8.toInt32) (gA σ 112) 65536) u) (gA σ 92) 0)) from rA_wrS0r (rA (rA (pI (rA σ 111 (cpy (fun j => ((gA σ 93) j).toInt8.toInt32) (gA σ 111) m)) 66 50 (nI m)) 112 (cpy (fun _ => (0 : Int32).toInt8.toInt32) (gA σ 112) 65536)) 112 (cpy (fun j => ((gA σ 69) j).toInt8.toInt32) (cpy (fun _ => (0 : Int32).toInt8.toInt32) (gA σ 112) 65536) u)) 112 _ rfl) ?_
                  refine Wx_count (fun k4 => [.ref 66, .int pl, .int sk, .int (nI k4)]) [] (fun k4 => (rA (rA (rA (pI (rA σ 111 (cpy (fun j => ((gA σ 93) j).toInt8.toInt32) (gA σ 111) m)) 66 50 (nI m)) 112 (cpy (fun _ => (0 : Int32).toInt8.toInt32) (gA σ 112) 65536)) 112 (cpy (fun j => ((gA σ 69) j).toInt8.toInt32) (cpy (fun _ => (0 : Int32).toInt8.toInt32) (gA σ 112) 65536) u)) 112 (wrS (cpy (fun j => ((gA σ 69) j).toInt8.toInt32) (cpy (fun _ => (0 : Int32).toInt8.toInt32) (gA σ 112) 65536) u) (gA σ 92) k4))) 0 (8 * s) ?_ ?_ (by omega)
                  · intro k4 hk4a hk4b Kk4
                    refine Wx_iload3 dX14_arm_129 ?_
                    refine Wx_bipush (v := 8) dX14_arm_130 (by decide) ?_
                    refine Wx_aload0 dX14_arm_132 ?_
                    refine Wx_getR 14 34 87 dX14_arm_133 f_X14_89 rfl (Nat.le_of_ble_eq_true rfl) rfl (gR_rA.trans (gR_rA.trans (gR_rA.trans (gR_pI.trans (gR_rA.trans hC))))) ?_
                    refine Wx_getI 13 3 dX14_arm_136 f_X14_380 rfl (Nat.le_of_ble_eq_true rfl) rfl ?_
                    rw [show gI (rA (rA (rA (pI (rA σ 111 (cpy (fun j => ((gA σ 93) j).toInt8.toInt32) (gA σ 111) m)) 66 50 (nI m)) 112 (cpy (fun _ => (0 : Int32).toInt8.toInt32) (gA σ 112) 65536)) 112 (cpy (fun j => ((gA σ 69) j).toInt8.toInt32) (cpy (fun _ => (0 : Int32).toInt8.toInt32) (gA σ 112) 65536) u)) 112 (wrS (cpy (fun j => ((gA σ 69) j).toInt8.toInt32) (cpy (fun _ => (0 : Int32).toInt8.toInt32) (gA σ 112) 65536) u) (gA σ 92) k4)) 87 3 = (nI s) from (gI_rA.trans (gI_rA.trans (gI_rA.trans ((gI_pI (by decide)).trans (gI_rA.trans es)))))]
                    refine Wx_imul dX14_arm_139 ?_
                    rw [show ((8 * (nI s)) : Int32) = nI (8 * s) from mulN rfl rfl]
                    refine Wx_icmp_ge 169 dX14_arm_140 (by decide) (fun h => absurd h (fun q => absurd ((cLe (a := (8 * s)) (b := k4) rfl rfl (by omega) (by omega)).mp q) (by omega))) (fun _ => ?_)
                    refine Wx_aload0 dX14_arm_143 ?_
                    refine Wx_ldcw dX14_arm_144 k_X14_782 ?_
                    refine Wx_iconst (v := 4) dX14_arm_147 (by decide) ?_
                    refine Wx_iload3 dX14_arm_148 ?_
                    refine Wx_imul dX14_arm_149 ?_
                    rw [show ((4 * (nI k4)) : Int32) = nI (4 * k4) from mulN rfl rfl]
                    refine Wx_iadd dX14_arm_150 ?_
                    rw [show ((135168 + (nI (4 * k4))) : Int32) = nI ((4 * k4) + 135168) from addE (a := 135168) (b := (4 * k4)) rfl rfl (by omega)]
                    refine Wx_aload0 dX14_arm_151 ?_
                    refine Wx_getR 14 34 87 dX14_arm_152 f_X14_89 rfl (Nat.le_of_ble_eq_true rfl) rfl (gR_rA.trans (gR_rA.trans (gR_rA.trans (gR_pI.trans (gR_rA.trans hC))))) ?_
                    refine Wx_getR 13 9 92 dX14_arm_155 f_X14_382 rfl (Nat.le_of_ble_eq_true rfl) rfl ((Rf_rA (Rf_rA (Rf_rA (Rf_pI (Rf_rA hR))))) 87 9 92 (by decide)) ?_
                    refine Wx_iload3 dX14_arm_158 ?_
                    refine Wx_iaload 1032 dX14_arm_159 rfl (Nat.le_of_ble_eq_true rfl) (vp_in_nI (show k4 < 1032 by omega) (by decide)) ?_
                    rw [show ((nI k4) : Int32).toNatClampNeg = k4 from nI_clamp (by omega)]
                    have c13 := (w_wWM (d + 0) (rA (rA (rA (pI (rA σ 111 (cpy (fun j => ((gA σ 93) j).toInt8.toInt32) (gA σ 111) m)) 66 50 (nI m)) 112 (cpy (fun _ => (0 : Int32).toInt8.toInt32) (gA σ 112) 65536)) 112 (cpy (fun j => ((gA σ 69) j).toInt8.toInt32) (cpy (fun _ => (0 : Int32).toInt8.toInt32) (gA σ 112) 65536) u)) 112 (wrS (cpy (fun j => ((gA σ 69) j).toInt8.toInt32) (cpy (fun _ => (0 : Int32).toInt8.toInt32) (gA σ 112) 65536) u) (gA σ 92) k4)) (((4 * k4) + 4096)) ((gA (rA (rA (rA (pI (rA σ 111 (cpy (fun j => ((gA σ 93) j).toInt8.toInt32) (gA σ 111) m)) 66 50 (nI m)) 112 (cpy (fun _ => (0 : Int32).toInt8.toInt32) (gA σ 112) 65536)) 112 (cpy (fun j => ((gA σ 69) j).toInt8.toInt32) (cpy (fun _ => (0 : Int32).toInt8.toInt32) (gA σ 112) 65536) u)) 112 (wrS (cpy (fun j => ((gA σ 69) j).toInt8.toInt32) (cpy (fun _ => (0 : Int32).toInt8.toInt32) (gA σ 112) 65536) u) (gA σ 92) k4)) 92 k4)) (Rf_rA (Rf_rA (Rf_rA (Rf_pI (Rf_rA hR))))) (by omega))
                    rw [show (((4 * k4) + 4096) + 131072) = ((4 * k4) + 135168) from by omega] at c13
                    refine Wx_cVv 66 14 [.int (nI ((4 * k4) + 135168)), .int (gA (rA (rA (rA (pI (rA σ 111 (cpy (fun j => ((gA σ 93) j).toInt8.toInt32) (gA σ 111) m)) 66 50 (nI m)) 112 (cpy (fun _ => (0 : Int32).toInt8.toInt32) (gA σ 112) 65536)) 112 (cpy (fun j => ((gA σ 69) j).toInt8.toInt32) (cpy (fun _ => (0 : Int32).toInt8.toInt32) (gA σ 112) 65536) u)) 112 (wrS (cpy (fun j => ((gA σ 69) j).toInt8.toInt32) (cpy (fun _ => (0 : Int32).toInt8.toInt32) (gA σ 112) 65536) u) (gA σ 92) k4)) 92 k4)] 2 m_X14_dataPut l_X14_648 i_X14_dataPut rfl rfl (show 66 < 122 by decide) dX14_arm_160 c13 (show _ ≤ d + 1 from Nat.le_refl _) (Nat.le_refl _) rfl (Nat.le_of_ble_eq_true rfl) rfl ?_
                    clear c13
                    refine Wx_iinc3 dX14_arm_163 rfl (Nat.le_of_ble_eq_true rfl) ?_
                    rw [show (((nI k4) : Int32) + Int32.ofInt 1) = nI (k4 + 1) from addE (a := k4) (b := 1) rfl rfl (by omega)]
                    refine Wx_goto 129 dX14_arm_166 (by decide) ?_
                    refine Wx_eq (show (t_wWM (rA (rA (rA (pI (rA σ 111 (cpy (fun j => ((gA σ 93) j).toInt8.toInt32) (gA σ 111) m)) 66 50 (nI m)) 112 (cpy (fun _ => (0 : Int32).toInt8.toInt32) (gA σ 112) 65536)) 112 (cpy (fun j => ((gA σ 69) j).toInt8.toInt32) (cpy (fun _ => (0 : Int32).toInt8.toInt32) (gA σ 112) 65536) u)) 112 (wrS (cpy (fun j => ((gA σ 69) j).toInt8.toInt32) (cpy (fun _ => (0 : Int32).toInt8.toInt32) (gA σ 112) 65536) u) (gA σ 92) k4)) (((4 * k4) + 4096)) ((gA (rA (rA (rA (pI (rA σ 111 (cpy (fun j => ((gA σ 93) j).toInt8.toInt32) (gA σ 111) m)) 66 50 (nI m)) 112 (cpy (fun _ => (0 : Int32).toInt8.toInt32) (gA σ 112) 65536)) 112 (cpy (fun j => ((gA σ 69) j).toInt8.toInt32) (cpy (fun _ => (0 : Int32).toInt8.toInt32) (gA σ 112) 65536) u)) 112 (wrS (cpy (fun j => ((gA σ 69) j).toInt8.toInt32) (cpy (fun _ => (0 : Int32).toInt8.toInt32) (gA σ 112) 65536) u) (gA σ 92) k4)) 92 k4))) = (rA (rA (rA (pI (rA σ 111 (cpy (fun j => ((gA σ 93) j).toInt8.toInt32) (gA σ 111) m)) 66 50 (nI m)) 112 (cpy (fun _ => (0 : Int32).toInt8.toInt32) (gA σ 112) 65536)) 112 (cpy (fun j => ((gA σ 69) j).toInt8.toInt32) (cpy (fun _ => (0 : Int32).toInt8.toInt32) (gA σ 112) 65536) u)) 112 (wrS (cpy (fun j => ((gA σ 69) j).toInt8.toInt32) (cpy (fun _ => (0 : Int32).toInt8.toInt32) (gA σ 112) 65536) u) (gA σ 92) (k4 + 1))) from wrS_stepMr (rA (rA (pI (rA σ 111 (cpy (fun j => ((gA σ 93) j).toInt8.toInt32) (gA σ 111) m)) 66 50 (nI m)) 112 (cpy (fun _ => (0 : Int32).toInt8.toInt32) (gA σ 112) 65536)) 112 (cpy (fun j => ((gA σ 69) j).toInt8.toInt32) (cpy (fun _ => (0 : Int32).toInt8.toInt32) (gA σ 112) 65536) u)) _ _ k4 rfl rfl) ?_
                    exact Kk4
                  ·
                    refine Wx_iload3 dX14_arm_129 ?_
                    refine Wx_bipush (v := 8) dX14_arm_130 (by decide) ?_
                    refine Wx_aload0 dX14_arm_132 ?_
                    refine Wx_getR 14 34 87 dX14_arm_133 f_X14_89 rfl (Nat.le_of_ble_eq_true rfl) rfl (gR_rA.trans (gR_rA.trans (gR_rA.trans (gR_pI.trans (gR_rA.trans hC))))) ?_
                    refine Wx_getI 13 3 dX14_arm_136 f_X14_380 rfl (Nat.le_of_ble_eq_true rfl) rfl ?_
                    rw [show gI (rA (rA (rA (pI (rA σ 111 (cpy (fun j => ((gA σ 93) j).toInt8.toInt32) (gA σ 111) m)) 66 50 (nI m)) 112 (cpy (fun _ => (0 : Int32).toInt8.toInt32) (gA σ 112) 65536)) 112 (cpy (fun j => ((gA σ 69) j).toInt8.toInt32) (cpy (fun _ => (0 : Int32).toInt8.toInt32) (gA σ 112) 65536) u)) 112 (wrS (cpy (fun j => ((gA σ 69) j).toInt8.toInt32) (cpy (fun _ => (0 : Int32).toInt8.toInt32) (gA σ 112) 65536) u) (gA σ 92) (8 * s))) 87 3 = (nI s) from (gI_rA.trans (gI_rA.trans (gI_rA.trans ((gI_pI (by decide)).trans (gI_rA.trans es)))))]
                    refine Wx_imul dX14_arm_139 ?_
                    rw [show ((8 * (nI s)) : Int32) = nI (8 * s) from mulN rfl rfl]
                    refine Wx_icmp_ge 169 dX14_arm_140 (by decide) (fun _ => ?_) (fun h => absurd ((cLe (a := (8 * s)) (b := (8 * s)) rfl rfl (by omega) (by omega)).mpr (by omega)) h)
                    refine Wx_aload0 dX14_arm_169 ?_
                    refine Wx_ldcw dX14_arm_170 k_X14_410 ?_
                    refine Wx_aload0 dX14_arm_173 ?_
                    refine Wx_getI 14 4 dX14_arm_174 f_X14_161 rfl (Nat.le_of_ble_eq_true rfl) rfl ?_
                    rw [show gI (rA (rA (rA (pI (rA σ 111 (cpy (fun j => ((gA σ 93) j).toInt8.toInt32) (gA σ 111) m)) 66 50 (nI m)) 112 (cpy (fun _ => (0 : Int32).toInt8.toInt32) (gA σ 112) 65536)) 112 (cpy (fun j => ((gA σ 69) j).toInt8.toInt32) (cpy (fun _ => (0 : Int32).toInt8.toInt32) (gA σ 112) 65536) u)) 112 (wrS (cpy (fun j => ((gA σ 69) j).toInt8.toInt32) (cpy (fun _ => (0 : Int32).toInt8.toInt32) (gA σ 112) 65536) u) (gA σ 92) (8 * s))) 66 4 = (nI u) from (gI_rA.trans (gI_rA.trans (gI_rA.trans ((gI_pI (by decide)).trans (gI_rA.trans eu)))))]
                    have c15 := (w_wWM (d + 0) (rA (rA (rA (pI (rA σ 111 (cpy (fun j => ((gA σ 93) j).toInt8.toInt32) (gA σ 111) m)) 66 50 (nI m)) 112 (cpy (fun _ => (0 : Int32).toInt8.toInt32) (gA σ 112) 65536)) 112 (cpy (fun j => ((gA σ 69) j).toInt8.toInt32) (cpy (fun _ => (0 : Int32).toInt8.toInt32) (gA σ 112) 65536) u)) 112 (wrS (cpy (fun j => ((gA σ 69) j).toInt8.toInt32) (cpy (fun _ => (0 : Int32).toInt8.toInt32) (gA σ 112) 65536) u) (gA σ 92) (8 * s))) (8192) ((nI u)) (Rf_rA (Rf_rA (Rf_rA (Rf_pI (Rf_rA hR))))) (by omega))
                    rw [show (8192 + 131072) = 139264 from by omega] at c15
                    refine Wx_cVv 66 14 [.int 139264, .int (nI u)] 2 m_X14_dataPut l_X14_648 i_X14_dataPut rfl rfl (show 66 < 122 by decide) dX14_arm_177 c15 (show _ ≤ d + 1 from Nat.le_refl _) (Nat.le_refl _) rfl (Nat.le_of_ble_eq_true rfl) rfl ?_
                    clear c15
                    refine Wx_iconst (v := 0) dX14_arm_180 (by decide) ?_
                    refine Wx_istore3 dX14_arm_181 rfl (Nat.le_of_ble_eq_true rfl) ?_
                    refine Wx_eq (show (t_wWM (rA (rA (rA (pI (rA σ 111 (cpy (fun j => ((gA σ 93) j).toInt8.toInt32) (gA σ 111) m)) 66 50 (nI m)) 112 (cpy (fun _ => (0 : Int32).toInt8.toInt32) (gA σ 112) 65536)) 112 (cpy (fun j => ((gA σ 69) j).toInt8.toInt32) (cpy (fun _ => (0 : Int32).toInt8.toInt32) (gA σ 112) 65536) u)) 112 (wrS (cpy (fun j => ((gA σ 69) j).toInt8.toInt32) (cpy (fun _ => (0 : Int32).toInt8.toInt32) (gA σ 112) 65536) u) (gA σ 92) (8 * s))) (8192) ((nI u))) = (rA (t_wWM (rA (rA (rA (pI (rA σ 111 (cpy (fun j => ((gA σ 93) j).toInt8.toInt32) (gA σ 111) m)) 66 50 (nI m)) 112 (cpy (fun _ => (0 : Int32).toInt8.toInt32) (gA σ 112) 65536)) 112 (cpy (fun j => ((gA σ 69) j).toInt8.toInt32) (cpy (fun _ => (0 : Int32).toInt8.toInt32) (gA σ 112) 65536) u)) 112 (wrS (cpy (fun j => ((gA σ 69) j).toInt8.toInt32) (cpy (fun _ => (0 : Int32).toInt8.toInt32) (gA σ 112) 65536) u) (gA σ 92) (8 * s))) (8192) ((nI u))) 113 (cpy (fun _ => (0 : Int32)) (gA (t_wWM (rA (rA (rA (pI (rA σ 111 (cpy (fun j => ((gA σ 93) j).toInt8.toInt32) (gA σ 111) m)) 66 50 (nI m)) 112 (cpy (fun _ => (0 : Int32).toInt8.toInt32) (gA σ 112) 65536)) 112 (cpy (fun j => ((gA σ 69) j).toInt8.toInt32) (cpy (fun _ => (0 : Int32).toInt8.toInt32) (gA σ 112) 65536) u)) 112 (wrS (cpy (fun j => ((gA σ 69) j).toInt8.toInt32) (cpy (fun _ => (0 : Int32).toInt8.toInt32) (gA σ 112) 65536) u) (gA σ 92) (8 * s))) (8192) ((nI u))) 113) 0)) from rA_cpy0r (t_wWM (rA (rA (rA (pI (rA σ 111 (cpy (fun j => ((gA σ 93) j).toInt8.toInt32) (gA σ 111) m)) 66 50 (nI m)) 112 (cpy (fun _ => (0 : Int32).toInt8.toInt32) (gA σ 112) 65536)) 112 (cpy (fun j => ((gA σ 69) j).toInt8.toInt32) (cpy (fun _ => (0 : Int32).toInt8.toInt32) (gA σ 112) 65536) u)) 112 (wrS (cpy (fun j => ((gA σ 69) j).toInt8.toInt32) (cpy (fun _ => (0 : Int32).toInt8.toInt32) (gA σ 112) 65536) u) (gA σ 92) (8 * s))) (8192) ((nI u))) 113 _ rfl) ?_
                    refine Wx_count (fun k5 => [.ref 66, .int pl, .int sk, .int (nI k5)]) [] (fun k5 => (rA (t_wWM (rA (rA (rA (pI (rA σ 111 (cpy (fun j => ((gA σ 93) j).toInt8.toInt32) (gA σ 111) m)) 66 50 (nI m)) 112 (cpy (fun _ => (0 : Int32).toInt8.toInt32) (gA σ 112) 65536)) 112 (cpy (fun j => ((gA σ 69) j).toInt8.toInt32) (cpy (fun _ => (0 : Int32).toInt8.toInt32) (gA σ 112) 65536) u)) 112 (wrS (cpy (fun j => ((gA σ 69) j).toInt8.toInt32) (cpy (fun _ => (0 : Int32).toInt8.toInt32) (gA σ 112) 65536) u) (gA σ 92) (8 * s))) (8192) ((nI u))) 113 (cpy (fun _ => (0 : Int32)) (gA (t_wWM (rA (rA (rA (pI (rA σ 111 (cpy (fun j => ((gA σ 93) j).toInt8.toInt32) (gA σ 111) m)) 66 50 (nI m)) 112 (cpy (fun _ => (0 : Int32).toInt8.toInt32) (gA σ 112) 65536)) 112 (cpy (fun j => ((gA σ 69) j).toInt8.toInt32) (cpy (fun _ => (0 : Int32).toInt8.toInt32) (gA σ 112) 65536) u)) 112 (wrS (cpy (fun j => ((gA σ 69) j).toInt8.toInt32) (cpy (fun _ => (0 : Int32).toInt8.toInt32) (gA σ 112) 65536) u) (gA σ 92) (8 * s))) (8192) ((nI u))) 113) k5))) 0 8 ?_ ?_ (by omega)
                    · intro k5 hk5a hk5b Kk5
                      refine Wx_iload3 dX14_arm_182 ?_
                      refine Wx_bipush (v := 8) dX14_arm_183 (by decide) ?_
                      refine Wx_icmp_ge 201 dX14_arm_185 (by decide) (fun h => absurd h (fun q => absurd ((cLe (a := 8) (b := k5) rfl rfl (by omega) (by omega)).mp q) (by omega))) (fun _ => ?_)
                      refine Wx_aload0 dX14_arm_188 ?_
                      refine Wx_getR 14 52 113 dX14_arm_189 f_X14_125 rfl (Nat.le_of_ble_eq_true rfl) rfl ((Rf_rA (Rf_of (k_wWM (rA (rA (rA (pI (rA σ 111 (cpy (fun j => ((gA σ 93) j).toInt8.toInt32) (gA σ 111) m)) 66 50 (nI m)) 112 (cpy (fun _ => (0 : Int32).toInt8.toInt32) (gA σ 112) 65536)) 112 (cpy (fun j => ((gA σ 69) j).toInt8.toInt32) (cpy (fun _ => (0 : Int32).toInt8.toInt32) (gA σ 112) 65536) u)) 112 (wrS (cpy (fun j => ((gA σ 69) j).toInt8.toInt32) (cpy (fun _ => (0 : Int32).toInt8.toInt32) (gA σ 112) 65536) u) (gA σ 92) (8 * s))) (8192) ((nI u))) (Rf_rA (Rf_rA (Rf_rA (Rf_pI (Rf_rA hR))))))) 66 52 113 (by decide)) ?_
                      refine Wx_iload3 dX14_arm_192 ?_
                      refine Wx_iconst (v := 0) dX14_arm_193 (by decide) ?_
                      refine Wx_iastore 8 dX14_arm_194 rfl (Nat.le_of_ble_eq_true rfl) (vp_in_nI (show k5 < 8 by omega) (by decide)) ?_
                      rw [show ((nI k5) : Int32).toNatClampNeg = k5 from nI_clamp (by omega)]
                      refine Wx_iinc3 dX14_arm_195 rfl (Nat.le_of_ble_eq_true rfl) ?_
                      rw [show (((nI k5) : Int32) + Int32.ofInt 1) = nI (k5 + 1) from addE (a := k5) (b := 1) rfl rfl (by omega)]
                      refine Wx_goto 182 dX14_arm_198 (by decide) ?_
                      refine Wx_eq (show (pA (rA (t_wWM (rA (rA (rA (pI (rA σ 111 (cpy (fun j => ((gA σ 93) j).toInt8.toInt32) (gA σ 111) m)) 66 50 (nI m)) 112 (cpy (fun _ => (0 : Int32).toInt8.toInt32) (gA σ 112) 65536)) 112 (cpy (fun j => ((gA σ 69) j).toInt8.toInt32) (cpy (fun _ => (0 : Int32).toInt8.toInt32) (gA σ 112) 65536) u)) 112 (wrS (cpy (fun j => ((gA σ 69) j).toInt8.toInt32) (cpy (fun _ => (0 : Int32).toInt8.toInt32) (gA σ 112) 65536) u) (gA σ 92) (8 * s))) (8192) ((nI u))) 113 (cpy (fun _ => (0 : Int32)) (gA (t_wWM (rA (rA (rA (pI (rA σ 111 (cpy (fun j => ((gA σ 93) j).toInt8.toInt32) (gA σ 111) m)) 66 50 (nI m)) 112 (cpy (fun _ => (0 : Int32).toInt8.toInt32) (gA σ 112) 65536)) 112 (cpy (fun j => ((gA σ 69) j).toInt8.toInt32) (cpy (fun _ => (0 : Int32).toInt8.toInt32) (gA σ 112) 65536) u)) 112 (wrS (cpy (fun j => ((gA σ 69) j).toInt8.toInt32) (cpy (fun _ => (0 : Int32).toInt8.toInt32) (gA σ 112) 65536) u) (gA σ 92) (8 * s))) (8192) ((nI u))) 113) k5)) 113 k5 0) = (rA (t_wWM (rA (rA (rA (pI (rA σ 111 (cpy (fun j => ((gA σ 93) j).toInt8.toInt32) (gA σ 111) m)) 66 50 (nI m)) 112 (cpy (fun _ => (0 : Int32).toInt8.toInt32) (gA σ 112) 65536)) 112 (cpy (fun j => ((gA σ 69) j).toInt8.toInt32) (cpy (fun _ => (0 : Int32).toInt8.toInt32) (gA σ 112) 65536) u)) 112 (wrS (cpy (fun j => ((gA σ 69) j).toInt8.toInt32) (cpy (fun _ => (0 : Int32).toInt8.toInt32) (gA σ 112) 65536) u) (gA σ 92) (8 * s))) (8192) ((nI u))) 113 (cpy (fun _ => (0 : Int32)) (gA (t_wWM (rA (rA (rA (pI (rA σ 111 (cpy (fun j => ((gA σ 93) j).toInt8.toInt32) (gA σ 111) m)) 66 50 (nI m)) 112 (cpy (fun _ => (0 : Int32).toInt8.toInt32) (gA σ 112) 65536)) 112 (cpy (fun j => ((gA σ 69) j).toInt8.toInt32) (cpy (fun _ => (0 : Int32).toInt8.toInt32) (gA σ 112) 65536) u)) 112 (wrS (cpy (fun j => ((gA σ 69) j).toInt8.toInt32) (cpy (fun _ => (0 : Int32).toInt8.toInt32) (gA σ 112) 65536) u) (gA σ 92) (8 * s))) (8192) ((nI u))) 113) (k5 + 1))) from pA_cpy (t_wWM (rA (rA (rA (pI (rA σ 111 (cpy (fun j => ((gA σ 93) j).toInt8.toInt32) (gA σ 111) m)) 66 50 (nI m)) 112 (cpy (fun _ => (0 : Int32).toInt8.toInt32) (gA σ 112) 65536)) 112 (cpy (fun j => ((gA σ 69) j).toInt8.toInt32) (cpy (fun _ => (0 : Int32).toInt8.toInt32) (gA σ 112) 65536) u)) 112 (wrS (cpy (fun j => ((gA σ 69) j).toInt8.toInt32) (cpy (fun _ => (0 : Int32).toInt8.toInt32) (gA σ 112) 65536) u) (gA σ 92) (8 * s))) (8192) ((nI u))) 113 k5 _ _ rfl) ?_
                      exact Kk5
                    ·
                      refine Wx_iload3 dX14_arm_182 ?_
                      refine Wx_bipush (v := 8) dX14_arm_183 (by decide) ?_
                      refine Wx_icmp_ge 201 dX14_arm_185 (by decide) (fun _ => ?_) (fun h => absurd ((cLe (a := 8) (b := 8) rfl rfl (by omega) (by omega)).mpr (by omega)) h)
                      refine Wx_aload0 dX14_arm_201 ?_
                      refine Wx_getR 14 52 113 dX14_arm_202 f_X14_125 rfl (Nat.le_of_ble_eq_true rfl) rfl ((Rf_rA (Rf_of (k_wWM (rA (rA (rA (pI (rA σ 111 (cpy (fun j => ((gA σ 93) j).toInt8.toInt32) (gA σ 111) m)) 66 50 (nI m)) 112 (cpy (fun _ => (0 : Int32).toInt8.toInt32) (gA σ 112) 65536)) 112 (cpy (fun j => ((gA σ 69) j).toInt8.toInt32) (cpy (fun _ => (0 : Int32).toInt8.toInt32) (gA σ 112) 65536) u)) 112 (wrS (cpy (fun j => ((gA σ 69) j).toInt8.toInt32) (cpy (fun _ => (0 : Int32).toInt8.toInt32) (gA σ 112) 65536) u) (gA σ 92) (8 * s))) (8192) ((nI u))) (Rf_rA (Rf_rA (Rf_rA (Rf_pI (Rf_rA hR))))))) 66 52 113 (by decide)) ?_
                      refine Wx_iconst (v := 3) dX14_arm_205 (by decide) ?_
                      refine Wx_iload1 dX14_arm_206 ?_
                      refine Wx_iastore 8 dX14_arm_207 rfl (Nat.le_of_ble_eq_true rfl) (vp_in_iff.mpr ⟨by decide, by decide⟩) ?_
                      rw [show (3 : Int32).toNatClampNeg = 3 from rfl]
                      refine Wx_aload0 dX14_arm_208 ?_
                      refine Wx_getR 14 52 113 dX14_arm_209 f_X14_125 rfl (Nat.le_of_ble_eq_true rfl) rfl ((Rf_pA (Rf_rA (Rf_of (k_wWM (rA (rA (rA (pI (rA σ 111 (cpy (fun j => ((gA σ 93) j).toInt8.toInt32) (gA σ 111) m)) 66 50 (nI m)) 112 (cpy (fun _ => (0 : Int32).toInt8.toInt32) (gA σ 112) 65536)) 112 (cpy (fun j => ((gA σ 69) j).toInt8.toInt32) (cpy (fun _ => (0 : Int32).toInt8.toInt32) (gA σ 112) 65536) u)) 112 (wrS (cpy (fun j => ((gA σ 69) j).toInt8.toInt32) (cpy (fun _ => (0 : Int32).toInt8.toInt32) (gA σ 112) 65536) u) (gA σ 92) (8 * s))) (8192) ((nI u))) (Rf_rA (Rf_rA (Rf_rA (Rf_pI (Rf_rA hR)))))))) 66 52 113 (by decide)) ?_
                      refine Wx_bipush (v := 6) dX14_arm_212 (by decide) ?_
                      refine Wx_sipush (v := 12288) dX14_arm_214 (by decide) ?_
                      refine Wx_iastore 8 dX14_arm_217 rfl (Nat.le_of_ble_eq_true rfl) (vp_in_iff.mpr ⟨by decide, by decide⟩) ?_
                      rw [show (6 : Int32).toNatClampNeg = 6 from rfl]
                      refine Wx_aload0 dX14_arm_218 ?_
                      refine Wx_getR 14 52 113 dX14_arm_219 f_X14_125 rfl (Nat.le_of_ble_eq_true rfl) rfl ((Rf_pA (Rf_pA (Rf_rA (Rf_of (k_wWM (rA (rA (rA (pI (rA σ 111 (cpy (fun j => ((gA σ 93) j).toInt8.toInt32) (gA σ 111) m)) 66 50 (nI m)) 112 (cpy (fun _ => (0 : Int32).toInt8.toInt32) (gA σ 112) 65536)) 112 (cpy (fun j => ((gA σ 69) j).toInt8.toInt32) (cpy (fun _ => (0 : Int32).toInt8.toInt32) (gA σ 112) 65536) u)) 112 (wrS (cpy (fun j => ((gA σ 69) j).toInt8.toInt32) (cpy (fun _ => (0 : Int32).toInt8.toInt32) (gA σ 112) 65536) u) (gA σ 92) (8 * s))) (8192) ((nI u))) (Rf_rA (Rf_rA (Rf_rA (Rf_pI (Rf_rA hR))))))))) 66 52 113 (by decide)) ?_
                      refine Wx_bipush (v := 7) dX14_arm_222 (by decide) ?_
                      refine Wx_sipush (v := 28672) dX14_arm_224 (by decide) ?_
                      refine Wx_iastore 8 dX14_arm_227 rfl (Nat.le_of_ble_eq_true rfl) (vp_in_iff.mpr ⟨by decide, by decide⟩) ?_
                      rw [show (7 : Int32).toNatClampNeg = 7 from rfl]
                      refine Wx_aload0 dX14_arm_228 ?_
                      refine Wx_getR 14 52 113 dX14_arm_229 f_X14_125 rfl (Nat.le_of_ble_eq_true rfl) rfl ((Rf_pA (Rf_pA (Rf_pA (Rf_rA (Rf_of (k_wWM (rA (rA (rA (pI (rA σ 111 (cpy (fun j => ((gA σ 93) j).toInt8.toInt32) (gA σ 111) m)) 66 50 (nI m)) 112 (cpy (fun _ => (0 : Int32).toInt8.toInt32) (gA σ 112) 65536)) 112 (cpy (fun j => ((gA σ 69) j).toInt8.toInt32) (cpy (fun _ => (0 : Int32).toInt8.toInt32) (gA σ 112) 65536) u)) 112 (wrS (cpy (fun j => ((gA σ 69) j).toInt8.toInt32) (cpy (fun _ => (0 : Int32).toInt8.toInt32) (gA σ 112) 65536) u) (gA σ 92) (8 * s))) (8192) ((nI u))) (Rf_rA (Rf_rA (Rf_rA (Rf_pI (Rf_rA hR)))))))))) 66 52 113 (by decide)) ?_
                      refine Wx_iconst (v := 5) dX14_arm_232 (by decide) ?_
                      refine Wx_iload2 dX14_arm_233 ?_
                      refine Wx_iastore 8 dX14_arm_234 rfl (Nat.le_of_ble_eq_true rfl) (vp_in_iff.mpr ⟨by decide, by decide⟩) ?_
                      rw [show (5 : Int32).toNatClampNeg = 5 from rfl]
                      refine Wx_aload0 dX14_arm_235 ?_
                      refine Wx_iconst (v := 0) dX14_arm_236 (by decide) ?_
                      refine Wx_putI 14 53 dX14_arm_237 f_X14_651 rfl (Nat.le_of_ble_eq_true rfl) rfl rfl ?_
                      refine Wx_aload0 dX14_arm_240 ?_
                      refine Wx_ldc dX14_arm_241 k_X14_121 ?_
                      refine Wx_putI 14 54 dX14_arm_243 f_X14_128 rfl (Nat.le_of_ble_eq_true rfl) rfl rfl ?_
                      refine Wx_aload0 dX14_arm_246 ?_
                      refine Wx_iconst (v := 0) dX14_arm_247 (by decide) ?_
                      refine Wx_putI 14 55 dX14_arm_248 f_X14_693 rfl (Nat.le_of_ble_eq_true rfl) rfl rfl ?_
                      refine Wx_iconst (v := 1) dX14_arm_251 (by decide) ?_
                      exact Wx_zreturn dX14_arm_252 rfl (by decide) rfl (⟨by rw [r_armM_87, if_neg h1, if_neg h2, if_neg h3, if_neg h4, if_pos h5], by rw [t_armM_87, if_neg h1, if_neg h2, if_neg h3, if_neg h4, if_pos h5]⟩)
          ·
            refine Wx_iconst (v := 0) dX14_arm_31 (by decide) ?_
            exact Wx_zreturn dX14_arm_32 rfl (by decide) rfl (⟨by rw [r_armM_87, if_neg h1, if_neg h2, if_neg h3, if_neg h4, if_neg h5], by rw [t_armM_87, if_neg h1, if_neg h2, if_neg h3, if_neg h4, if_neg h5]⟩)
def r_armM_95 (σ : Hp) (pl : Int32) (sk : Int32) (m u s : Nat) : Int32 := (if (gI σ 66 35) = 0 then 0 else (if pl < 0 then 0 else (if (nI u) < pl then 0 else (if sk < 1 then 0 else (if sk ≤ 1000 then 1 else 0)))))
def t_armM_95 (σ : Hp) (pl : Int32) (sk : Int32) (m u s : Nat) : Hp := (if (gI σ 66 35) = 0 then σ else (if pl < 0 then σ else (if (nI u) < pl then σ else (if sk < 1 then σ else (if sk ≤ 1000 then (pI (pI (pI (pA (pA (pA (pA (rA (t_wWM (rA (rA (rA (pI (rA σ 111 (cpy (fun j => ((gA σ 101) j).toInt8.toInt32) (gA σ 111) m)) 66 50 (nI m)) 112 (cpy (fun _ => (0 : Int32).toInt8.toInt32) (gA σ 112) 65536)) 112 (cpy (fun j => ((gA σ 69) j).toInt8.toInt32) (cpy (fun _ => (0 : Int32).toInt8.toInt32) (gA σ 112) 65536) u)) 112 (wrS (cpy (fun j => ((gA σ 69) j).toInt8.toInt32) (cpy (fun _ => (0 : Int32).toInt8.toInt32) (gA σ 112) 65536) u) (gA σ 100) (8 * s))) (8192) ((nI u))) 113 (cpy (fun _ => (0 : Int32)) (gA (t_wWM (rA (rA (rA (pI (rA σ 111 (cpy (fun j => ((gA σ 101) j).toInt8.toInt32) (gA σ 111) m)) 66 50 (nI m)) 112 (cpy (fun _ => (0 : Int32).toInt8.toInt32) (gA σ 112) 65536)) 112 (cpy (fun j => ((gA σ 69) j).toInt8.toInt32) (cpy (fun _ => (0 : Int32).toInt8.toInt32) (gA σ 112) 65536) u)) 112 (wrS (cpy (fun j => ((gA σ 69) j).toInt8.toInt32) (cpy (fun _ => (0 : Int32).toInt8.toInt32) (gA σ 112) 65536) u) (gA σ 100) (8 * s))) (8192) ((nI u))) 113) 8)) 113 3 pl) 113 6 12288) 113 7 28672) 113 5 sk) 66 53 0) 66 54 65536) 66 55 0) else σ)))))
theorem k_armM_95 (σ : Hp) (pl : Int32) (sk : Int32) (m u s : Nat) : (t_armM_95 σ pl sk m u s).2.1 = σ.2.1 := by
  unfold t_armM_95
  simp only [apply_ite Prod.snd, apply_ite (Prod.fst (α := Nat → Nat → Option Nat) (β := (Nat → Nat → Int32) × (Nat → Nat → Int64))), k_wWM, R_pI, R_pA, R_pL, R_rA, ite_self]
theorem w_armM_95 (d : Nat) (σ : Hp) (pl : Int32) (sk : Int32) (m u s : Nat) (hR : Rf σ) (hC : gR σ 66 34 = some 95) (em : gI σ 95 4 = nI m) (eu : gI σ 66 4 = nI u) (es : gI σ 95 3 = nI s) (hm : m ≤ 61440) (hu : u ≤ 4000) (hs : s ≤ 128) : Cx yX14_arm cX14_arm 4 (some .boolean) (d + 1) 122 122 [.ref 66, .int pl, .int sk] σ (fun o τ => o = .inl (some (.int (r_armM_95 σ pl sk m u s))) ∧ τ = t_armM_95 σ pl sk m u s) := by
  refine Cx_of RX14 false (by decide) rfl (fun q => by cases q) (Nat.le_refl _) rfl (Nat.le_of_ble_eq_true rfl) ?_
  refine Wx_aload0 dX14_arm_0 ?_
  refine Wx_getI 14 35 dX14_arm_1 f_X14_535 rfl (Nat.le_of_ble_eq_true rfl) rfl ?_
  refine Wx_if_eq 31 dX14_arm_4 (by decide) (fun h1 => ?_) (fun h1 => ?_)
  ·
    refine Wx_iconst (v := 0) dX14_arm_31 (by decide) ?_
    exact Wx_zreturn dX14_arm_32 rfl (by decide) rfl (⟨by rw [r_armM_95, if_pos h1], by rw [t_armM_95, if_pos h1]⟩)
  ·
    refine Wx_iload1 dX14_arm_7 ?_
    refine Wx_if_lt 31 dX14_arm_8 (by decide) (fun h2 => ?_) (fun h2 => ?_)
    ·
      refine Wx_iconst (v := 0) dX14_arm_31 (by decide) ?_
      exact Wx_zreturn dX14_arm_32 rfl (by decide) rfl (⟨by rw [r_armM_95, if_neg h1, if_pos h2], by rw [t_armM_95, if_neg h1, if_pos h2]⟩)
    ·
      refine Wx_iload1 dX14_arm_11 ?_
      refine Wx_aload0 dX14_arm_12 ?_
      refine Wx_getI 14 4 dX14_arm_13 f_X14_161 rfl (Nat.le_of_ble_eq_true rfl) rfl ?_
      rw [show gI σ 66 4 = (nI u) from eu]
      refine Wx_icmp_gt 31 dX14_arm_16 (by decide) (fun h3 => ?_) (fun h3 => ?_)
      ·
        refine Wx_iconst (v := 0) dX14_arm_31 (by decide) ?_
        exact Wx_zreturn dX14_arm_32 rfl (by decide) rfl (⟨by rw [r_armM_95, if_neg h1, if_neg h2, if_pos h3], by rw [t_armM_95, if_neg h1, if_neg h2, if_pos h3]⟩)
      ·
        refine Wx_iload2 dX14_arm_19 ?_
        refine Wx_iconst (v := 1) dX14_arm_20 (by decide) ?_
        refine Wx_icmp_lt 31 dX14_arm_21 (by decide) (fun h4 => ?_) (fun h4 => ?_)
        ·
          refine Wx_iconst (v := 0) dX14_arm_31 (by decide) ?_
          exact Wx_zreturn dX14_arm_32 rfl (by decide) rfl (⟨by rw [r_armM_95, if_neg h1, if_neg h2, if_neg h3, if_pos h4], by rw [t_armM_95, if_neg h1, if_neg h2, if_neg h3, if_pos h4]⟩)
        ·
          refine Wx_iload2 dX14_arm_24 ?_
          refine Wx_sipush (v := 1000) dX14_arm_25 (by decide) ?_
          refine Wx_icmp_le 33 dX14_arm_28 (by decide) (fun h5 => ?_) (fun h5 => ?_)
          ·
            refine Wx_iconst (v := 0) dX14_arm_33 (by decide) ?_
            refine Wx_istore3 dX14_arm_34 rfl (Nat.le_of_ble_eq_true rfl) ?_
            refine Wx_eq (show σ = (rA σ 111 (cpy (fun j => ((gA σ 101) j).toInt8.toInt32) (gA σ 111) 0)) from rA_cpy0r σ 111 _ rfl) ?_
            refine Wx_count (fun k1 => [.ref 66, .int pl, .int sk, .int (nI k1)]) [] (fun k1 => (rA σ 111 (cpy (fun j => ((gA σ 101) j).toInt8.toInt32) (gA σ 111) k1))) 0 m ?_ ?_ (by omega)
            · intro k1 hk1a hk1b Kk1
              refine Wx_iload3 dX14_arm_35 ?_
              refine Wx_aload0 dX14_arm_36 ?_
              refine Wx_getR 14 34 95 dX14_arm_37 f_X14_89 rfl (Nat.le_of_ble_eq_true rfl) rfl (gR_rA.trans hC) ?_
              refine Wx_getI 13 4 dX14_arm_40 f_X14_507 rfl (Nat.le_of_ble_eq_true rfl) rfl ?_
              rw [show gI (rA σ 111 (cpy (fun j => ((gA σ 101) j).toInt8.toInt32) (gA σ 111) k1)) 95 4 = (nI m) from (gI_rA.trans em)]
              refine Wx_icmp_ge 67 dX14_arm_43 (by decide) (fun h => absurd h (fun q => absurd ((cLe (a := m) (b := k1) rfl rfl (by omega) (by omega)).mp q) (by omega))) (fun _ => ?_)
              refine Wx_aload0 dX14_arm_46 ?_
              refine Wx_getR 14 49 111 dX14_arm_47 f_X14_118 rfl (Nat.le_of_ble_eq_true rfl) rfl ((Rf_rA hR) 66 49 111 (by decide)) ?_
              refine Wx_iload3 dX14_arm_50 ?_
              refine Wx_aload0 dX14_arm_51 ?_
              refine Wx_getR 14 34 95 dX14_arm_52 f_X14_89 rfl (Nat.le_of_ble_eq_true rfl) rfl (gR_rA.trans hC) ?_
              refine Wx_getR 13 10 101 dX14_arm_55 f_X14_516 rfl (Nat.le_of_ble_eq_true rfl) rfl ((Rf_rA hR) 95 10 101 (by decide)) ?_
              refine Wx_iload3 dX14_arm_58 ?_
              refine Wx_baload 61440 dX14_arm_59 rfl (Nat.le_of_ble_eq_true rfl) (vp_in_nI (show k1 < 61440 by omega) (by decide)) ?_
              rw [show ((nI k1) : Int32).toNatClampNeg = k1 from nI_clamp (by omega)]
              refine Wx_bastore 61440 dX14_arm_60 rfl (Nat.le_of_ble_eq_true rfl) (vp_in_nI (show k1 < 61440 by omega) (by decide)) ?_
              rw [show ((nI k1) : Int32).toNatClampNeg = k1 from nI_clamp (by omega)]
              refine Wx_iinc3 dX14_arm_61 rfl (Nat.le_of_ble_eq_true rfl) ?_
              rw [show (((nI k1) : Int32) + Int32.ofInt 1) = nI (k1 + 1) from addE (a := k1) (b := 1) rfl rfl (by omega)]
              refine Wx_goto 35 dX14_arm_64 (by decide) ?_
              refine Wx_eq (show (pA (rA σ 111 (cpy (fun j => ((gA σ 101) j).toInt8.toInt32) (gA σ 111) k1)) 111 k1 ((gA (rA σ 111 (cpy (fun j => ((gA σ 101) j).toInt8.toInt32) (gA σ 111) k1)) 101 k1) : Int32).toInt8.toInt32) = (rA σ 111 (cpy (fun j => ((gA σ 101) j).toInt8.toInt32) (gA σ 111) (k1 + 1))) from pA_cpy σ 111 k1 _ _ rfl) ?_
              exact Kk1
            ·
              refine Wx_iload3 dX14_arm_35 ?_
              refine Wx_aload0 dX14_arm_36 ?_
              refine Wx_getR 14 34 95 dX14_arm_37 f_X14_89 rfl (Nat.le_of_ble_eq_true rfl) rfl (gR_rA.trans hC) ?_
              refine Wx_getI 13 4 dX14_arm_40 f_X14_507 rfl (Nat.le_of_ble_eq_true rfl) rfl ?_
              rw [show gI (rA σ 111 (cpy (fun j => ((gA σ 101) j).toInt8.toInt32) (gA σ 111) m)) 95 4 = (nI m) from (gI_rA.trans em)]
              refine Wx_icmp_ge 67 dX14_arm_43 (by decide) (fun _ => ?_) (fun h => absurd ((cLe (a := m) (b := m) rfl rfl (by omega) (by omega)).mpr (by omega)) h)
              refine Wx_aload0 dX14_arm_67 ?_
              refine Wx_aload0 dX14_arm_68 ?_
              refine Wx_getR 14 34 95 dX14_arm_69 f_X14_89 rfl (Nat.le_of_ble_eq_true rfl) rfl (gR_rA.trans hC) ?_
              refine Wx_getI 13 4 dX14_arm_72 f_X14_507 rfl (Nat.le_of_ble_eq_true rfl) rfl ?_
              rw [show gI (rA σ 111 (cpy (fun j => ((gA σ 101) j).toInt8.toInt32) (gA σ 111) m)) 95 4 = (nI m) from (gI_rA.trans em)]
              refine Wx_putI 14 50 dX14_arm_75 f_X14_538 rfl (Nat.le_of_ble_eq_true rfl) rfl rfl ?_
              refine Wx_iconst (v := 0) dX14_arm_78 (by decide) ?_
              refine Wx_istore3 dX14_arm_79 rfl (Nat.le_of_ble_eq_true rfl) ?_
              refine Wx_eq (show (pI (rA σ 111 (cpy (fun j => ((gA σ 101) j).toInt8.toInt32) (gA σ 111) m)) 66 50 (nI m)) = (rA (pI (rA σ 111 (cpy (fun j => ((gA σ 101) j).toInt8.toInt32) (gA σ 111) m)) 66 50 (nI m)) 112 (cpy (fun _ => (0 : Int32).toInt8.toInt32) (gA σ 112) 0)) from rA_cpy0r (pI (rA σ 111 (cpy (fun j => ((gA σ 101) j).toInt8.toInt32) (gA σ 111) m)) 66 50 (nI m)) 112 _ rfl) ?_
              refine Wx_count (fun k2 => [.ref 66, .int pl, .int sk, .int (nI k2)]) [] (fun k2 => (rA (pI (rA σ 111 (cpy (fun j => ((gA σ 101) j).toInt8.toInt32) (gA σ 111) m)) 66 50 (nI m)) 112 (cpy (fun _ => (0 : Int32).toInt8.toInt32) (gA σ 112) k2))) 0 65536 ?_ ?_ (by omega)
              · intro k2 hk2a hk2b Kk2
                refine Wx_iload3 dX14_arm_80 ?_
                refine Wx_ldc dX14_arm_81 k_X14_121 ?_
                refine Wx_icmp_ge 99 dX14_arm_83 (by decide) (fun h => absurd h (fun q => absurd ((cLe (a := 65536) (b := k2) rfl rfl (by omega) (by omega)).mp q) (by omega))) (fun _ => ?_)
                refine Wx_aload0 dX14_arm_86 ?_
                refine Wx_getR 14 51 112 dX14_arm_87 f_X14_122 rfl (Nat.le_of_ble_eq_true rfl) rfl ((Rf_rA (Rf_pI (Rf_rA hR))) 66 51 112 (by decide)) ?_
                refine Wx_iload3 dX14_arm_90 ?_
                refine Wx_iconst (v := 0) dX14_arm_91 (by decide) ?_
                refine Wx_bastore 65536 dX14_arm_92 rfl (Nat.le_of_ble_eq_true rfl) (vp_in_nI (show k2 < 65536 by omega) (by decide)) ?_
                rw [show ((nI k2) : Int32).toNatClampNeg = k2 from nI_clamp (by omega)]
                refine Wx_iinc3 dX14_arm_93 rfl (Nat.le_of_ble_eq_true rfl) ?_
                rw [show (((nI k2) : Int32) + Int32.ofInt 1) = nI (k2 + 1) from addE (a := k2) (b := 1) rfl rfl (by omega)]
                refine Wx_goto 80 dX14_arm_96 (by decide) ?_
                refine Wx_eq (show (pA (rA (pI (rA σ 111 (cpy (fun j => ((gA σ 101) j).toInt8.toInt32) (gA σ 111) m)) 66 50 (nI m)) 112 (cpy (fun _ => (0 : Int32).toInt8.toInt32) (gA σ 112) k2)) 112 k2 (0 : Int32).toInt8.toInt32) = (rA (pI (rA σ 111 (cpy (fun j => ((gA σ 101) j).toInt8.toInt32) (gA σ 111) m)) 66 50 (nI m)) 112 (cpy (fun _ => (0 : Int32).toInt8.toInt32) (gA σ 112) (k2 + 1))) from pA_cpy (pI (rA σ 111 (cpy (fun j => ((gA σ 101) j).toInt8.toInt32) (gA σ 111) m)) 66 50 (nI m)) 112 k2 _ _ rfl) ?_
                exact Kk2
              ·
                refine Wx_iload3 dX14_arm_80 ?_
                refine Wx_ldc dX14_arm_81 k_X14_121 ?_
                refine Wx_icmp_ge 99 dX14_arm_83 (by decide) (fun _ => ?_) (fun h => absurd ((cLe (a := 65536) (b := 65536) rfl rfl (by omega) (by omega)).mpr (by omega)) h)
                refine Wx_iconst (v := 0) dX14_arm_99 (by decide) ?_
                refine Wx_istore3 dX14_arm_100 rfl (Nat.le_of_ble_eq_true rfl) ?_
                refine Wx_eq (show (rA (pI (rA σ 111 (cpy (fun j => ((gA σ 101) j).toInt8.toInt32) (gA σ 111) m)) 66 50 (nI m)) 112 (cpy (fun _ => (0 : Int32).toInt8.toInt32) (gA σ 112) 65536)) = (rA (rA (pI (rA σ 111 (cpy (fun j => ((gA σ 101) j).toInt8.toInt32) (gA σ 111) m)) 66 50 (nI m)) 112 (cpy (fun _ => (0 : Int32).toInt8.toInt32) (gA σ 112) 65536)) 112 (cpy (fun j => ((gA σ 69) j).toInt8.toInt32) (cpy (fun _ => (0 : Int32).toInt8.toInt32) (gA σ 112) 65536) 0)) from rA_cpy0r (rA (pI (rA σ 111 (cpy (fun j => ((gA σ 101) j).toInt8.toInt32) (gA σ 111) m)) 66 50 (nI m)) 112 (cpy (fun _ => (0 : Int32).toInt8.toInt32) (gA σ 112) 65536)) 112 _ rfl) ?_
                refine Wx_count (fun k3 => [.ref 66, .int pl, .int sk, .int (nI k3)]) [] (fun k3 => (rA (rA (pI (rA σ 111 (cpy (fun j => ((gA σ 101) j).toInt8.toInt32) (gA σ 111) m)) 66 50 (nI m)) 112 (cpy (fun _ => (0 : Int32).toInt8.toInt32) (gA σ 112) 65536)) 112 (cpy (fun j => ((gA σ 69) j).toInt8.toInt32) (cpy (fun _ => (0 : Int32).toInt8.toInt32) (gA σ 112) 65536) k3))) 0 u ?_ ?_ (by omega)
                · intro k3 hk3a hk3b Kk3
                  refine Wx_iload3 dX14_arm_101 ?_
                  refine Wx_aload0 dX14_arm_102 ?_
                  refine Wx_getI 14 4 dX14_arm_103 f_X14_161 rfl (Nat.le_of_ble_eq_true rfl) rfl ?_
                  rw [show gI (rA (rA (pI (rA σ 111 (cpy (fun j => ((gA σ 101) j).toInt8.toInt32) (gA σ 111) m)) 66 50 (nI m)) 112 (cpy (fun _ => (0 : Int32).toInt8.toInt32) (gA σ 112) 65536)) 112 (cpy (fun j => ((gA σ 69) j).toInt8.toInt32) (cpy (fun _ => (0 : Int32).toInt8.toInt32) (gA σ 112) 65536) k3)) 66 4 = (nI u) from (gI_rA.trans (gI_rA.trans ((gI_pI (by decide)).trans (gI_rA.trans eu))))]
                  refine Wx_icmp_ge 127 dX14_arm_106 (by decide) (fun h => absurd h (fun q => absurd ((cLe (a := u) (b := k3) rfl rfl (by omega) (by omega)).mp q) (by omega))) (fun _ => ?_)
                  refine Wx_aload0 dX14_arm_109 ?_
                  refine Wx_getR 14 51 112 dX14_arm_110 f_X14_122 rfl (Nat.le_of_ble_eq_true rfl) rfl ((Rf_rA (Rf_rA (Rf_pI (Rf_rA hR)))) 66 51 112 (by decide)) ?_
                  refine Wx_iload3 dX14_arm_113 ?_
                  refine Wx_aload0 dX14_arm_114 ?_
                  refine Wx_getR 14 3 69 dX14_arm_115 f_X14_20 rfl (Nat.le_of_ble_eq_true rfl) rfl ((Rf_rA (Rf_rA (Rf_pI (Rf_rA hR)))) 66 3 69 (by decide)) ?_
                  refine Wx_iload3 dX14_arm_118 ?_
                  refine Wx_baload 4000 dX14_arm_119 rfl (Nat.le_of_ble_eq_true rfl) (vp_in_nI (show k3 < 4000 by omega) (by decide)) ?_
                  rw [show ((nI k3) : Int32).toNatClampNeg = k3 from nI_clamp (by omega)]
                  refine Wx_bastore 65536 dX14_arm_120 rfl (Nat.le_of_ble_eq_true rfl) (vp_in_nI (show k3 < 65536 by omega) (by decide)) ?_
                  rw [show ((nI k3) : Int32).toNatClampNeg = k3 from nI_clamp (by omega)]
                  refine Wx_iinc3 dX14_arm_121 rfl (Nat.le_of_ble_eq_true rfl) ?_
                  rw [show (((nI k3) : Int32) + Int32.ofInt 1) = nI (k3 + 1) from addE (a := k3) (b := 1) rfl rfl (by omega)]
                  refine Wx_goto 101 dX14_arm_124 (by decide) ?_
                  refine Wx_eq (show (pA (rA (rA (pI (rA σ 111 (cpy (fun j => ((gA σ 101) j).toInt8.toInt32) (gA σ 111) m)) 66 50 (nI m)) 112 (cpy (fun _ => (0 : Int32).toInt8.toInt32) (gA σ 112) 65536)) 112 (cpy (fun j => ((gA σ 69) j).toInt8.toInt32) (cpy (fun _ => (0 : Int32).toInt8.toInt32) (gA σ 112) 65536) k3)) 112 k3 ((gA (rA (rA (pI (rA σ 111 (cpy (fun j => ((gA σ 101) j).toInt8.toInt32) (gA σ 111) m)) 66 50 (nI m)) 112 (cpy (fun _ => (0 : Int32).toInt8.toInt32) (gA σ 112) 65536)) 112 (cpy (fun j => ((gA σ 69) j).toInt8.toInt32) (cpy (fun _ => (0 : Int32).toInt8.toInt32) (gA σ 112) 65536) k3)) 69 k3) : Int32).toInt8.toInt32) = (rA (rA (pI (rA σ 111 (cpy (fun j => ((gA σ 101) j).toInt8.toInt32) (gA σ 111) m)) 66 50 (nI m)) 112 (cpy (fun _ => (0 : Int32).toInt8.toInt32) (gA σ 112) 65536)) 112 (cpy (fun j => ((gA σ 69) j).toInt8.toInt32) (cpy (fun _ => (0 : Int32).toInt8.toInt32) (gA σ 112) 65536) (k3 + 1))) from pA_cpy (rA (pI (rA σ 111 (cpy (fun j => ((gA σ 101) j).toInt8.toInt32) (gA σ 111) m)) 66 50 (nI m)) 112 (cpy (fun _ => (0 : Int32).toInt8.toInt32) (gA σ 112) 65536)) 112 k3 _ _ rfl) ?_
                  exact Kk3
                ·
                  refine Wx_iload3 dX14_arm_101 ?_
                  refine Wx_aload0 dX14_arm_102 ?_
                  refine Wx_getI 14 4 dX14_arm_103 f_X14_161 rfl (Nat.le_of_ble_eq_true rfl) rfl ?_
                  rw [show gI (rA (rA (pI (rA σ 111 (cpy (fun j => ((gA σ 101) j).toInt8.toInt32) (gA σ 111) m)) 66 50 (nI m)) 112 (cpy (fun _ => (0 : Int32).toInt8.toInt32) (gA σ 112) 65536)) 112 (cpy (fun j => ((gA σ 69) j).toInt8.toInt32) (cpy (fun _ => (0 : Int32).toInt8.toInt32) (gA σ 112) 65536) u)) 66 4 = (nI u) from (gI_rA.trans (gI_rA.trans ((gI_pI (by decide)).trans (gI_rA.trans eu))))]
                  refine Wx_icmp_ge 127 dX14_arm_106 (by decide) (fun _ => ?_) (fun h => absurd ((cLe (a := u) (b := u) rfl rfl (by omega) (by omega)).mpr (by omega)) h)
                  refine Wx_iconst (v := 0) dX14_arm_127 (by decide) ?_
                  refine Wx_istore3 dX14_arm_128 rfl (Nat.le_of_ble_eq_true rfl) ?_
                  refine Wx_eq (show (rA (rA (pI (rA σ 111 (cpy (fun j => ((gA σ 101) j).toInt8.toInt32) (gA σ 111) m)) 66 50 (nI m)) 112 (cpy (fun _ => (0 : Int32).toInt8.toInt32) (gA σ 112) 65536)) 112 (cpy (fun j => ((gA σ 69) j).toInt8.toInt32) (cpy (fun _ => (0 : Int32).toInt8.toInt32) (gA σ 112) 65536) u)) = (rA (rA (rA (pI (rA σ 111 (cpy (fun j => ((gA σ 101) j).toInt8.toInt32) (gA σ 111) m)) 66 50 (nI m)) 112 (cpy (fun _ => (0 : Int32).toInt8.toInt32) (gA σ 112) 65536)) 112 (cpy (fun j => ((gA σ 69) j).toInt8.toInt32) (cpy (fun _ => (0 : Int32).toInt8.toInt32) (gA σ 112) 65536) u)) 112 (wrS (cpy (fun j => ((gA σ 69) j).toInt8.toInt32) (cpy (fun _ => (0 : Int32).toInt8.toInt32) (gA σ 112) 65536) u) (gA σ 100) 0)) from rA_wrS0r (rA (rA (pI (rA σ 111 (cpy (fun j => ((gA σ 101) j).toInt8.toInt32) (gA σ 111) m)) 66 50 (nI m)) 112 (cpy (fun _ => (0 : Int32).toInt8.toInt32) (gA σ 112) 65536)) 112 (cpy (fun j => ((gA σ 69) j).toInt8.toInt32) (cpy (fun _ => (0 : Int32).toInt8.toInt32) (gA σ 112) 65536) u)) 112 _ rfl) ?_
                  refine Wx_count (fun k4 => [.ref 66, .int pl, .int sk, .int (nI k4)]) [] (fun k4 => (rA (rA (rA (pI (rA σ 111 (cpy (fun j => ((gA σ 101) j).toInt8.toInt32) (gA σ 111) m)) 66 50 (nI m)) 112 (cpy (fun _ => (0 : Int32).toInt8.toInt32) (gA σ 112) 65536)) 112 (cpy (fun j => ((gA σ 69) j).toInt8.toInt32) (cpy (fun _ => (0 : Int32).toInt8.toInt32) (gA σ 112) 65536) u)) 112 (wrS (cpy (fun j => ((gA σ 69) j).toInt8.toInt32) (cpy (fun _ => (0 : Int32).toInt8.toInt32) (gA σ 112) 65536) u) (gA σ 100) k4))) 0 (8 * s) ?_ ?_ (by omega)
                  · intro k4 hk4a hk4b Kk4
                    refine Wx_iload3 dX14_arm_129 ?_
                    refine Wx_bipush (v := 8) dX14_arm_130 (by decide) ?_
                    refine Wx_aload0 dX14_arm_132 ?_
                    refine Wx_getR 14 34 95 dX14_arm_133 f_X14_89 rfl (Nat.le_of_ble_eq_true rfl) rfl (gR_rA.trans (gR_rA.trans (gR_rA.trans (gR_pI.trans (gR_rA.trans hC))))) ?_
                    refine Wx_getI 13 3 dX14_arm_136 f_X14_380 rfl (Nat.le_of_ble_eq_true rfl) rfl ?_
                    rw [show gI (rA (rA (rA (pI (rA σ 111 (cpy (fun j => ((gA σ 101) j).toInt8.toInt32) (gA σ 111) m)) 66 50 (nI m)) 112 (cpy (fun _ => (0 : Int32).toInt8.toInt32) (gA σ 112) 65536)) 112 (cpy (fun j => ((gA σ 69) j).toInt8.toInt32) (cpy (fun _ => (0 : Int32).toInt8.toInt32) (gA σ 112) 65536) u)) 112 (wrS (cpy (fun j => ((gA σ 69) j).toInt8.toInt32) (cpy (fun _ => (0 : Int32).toInt8.toInt32) (gA σ 112) 65536) u) (gA σ 100) k4)) 95 3 = (nI s) from (gI_rA.trans (gI_rA.trans (gI_rA.trans ((gI_pI (by decide)).trans (gI_rA.trans es)))))]
                    refine Wx_imul dX14_arm_139 ?_
                    rw [show ((8 * (nI s)) : Int32) = nI (8 * s) from mulN rfl rfl]
                    refine Wx_icmp_ge 169 dX14_arm_140 (by decide) (fun h => absurd h (fun q => absurd ((cLe (a := (8 * s)) (b := k4) rfl rfl (by omega) (by omega)).mp q) (by omega))) (fun _ => ?_)
                    refine Wx_aload0 dX14_arm_143 ?_
                    refine Wx_ldcw dX14_arm_144 k_X14_782 ?_
                    refine Wx_iconst (v := 4) dX14_arm_147 (by decide) ?_
                    refine Wx_iload3 dX14_arm_148 ?_
                    refine Wx_imul dX14_arm_149 ?_
                    rw [show ((4 * (nI k4)) : Int32) = nI (4 * k4) from mulN rfl rfl]
                    refine Wx_iadd dX14_arm_150 ?_
                    rw [show ((135168 + (nI (4 * k4))) : Int32) = nI ((4 * k4) + 135168) from addE (a := 135168) (b := (4 * k4)) rfl rfl (by omega)]
                    refine Wx_aload0 dX14_arm_151 ?_
                    refine Wx_getR 14 34 95 dX14_arm_152 f_X14_89 rfl (Nat.le_of_ble_eq_true rfl) rfl (gR_rA.trans (gR_rA.trans (gR_rA.trans (gR_pI.trans (gR_rA.trans hC))))) ?_
                    refine Wx_getR 13 9 100 dX14_arm_155 f_X14_382 rfl (Nat.le_of_ble_eq_true rfl) rfl ((Rf_rA (Rf_rA (Rf_rA (Rf_pI (Rf_rA hR))))) 95 9 100 (by decide)) ?_
                    refine Wx_iload3 dX14_arm_158 ?_
                    refine Wx_iaload 1032 dX14_arm_159 rfl (Nat.le_of_ble_eq_true rfl) (vp_in_nI (show k4 < 1032 by omega) (by decide)) ?_
                    rw [show ((nI k4) : Int32).toNatClampNeg = k4 from nI_clamp (by omega)]
                    have c13 := (w_wWM (d + 0) (rA (rA (rA (pI (rA σ 111 (cpy (fun j => ((gA σ 101) j).toInt8.toInt32) (gA σ 111) m)) 66 50 (nI m)) 112 (cpy (fun _ => (0 : Int32).toInt8.toInt32) (gA σ 112) 65536)) 112 (cpy (fun j => ((gA σ 69) j).toInt8.toInt32) (cpy (fun _ => (0 : Int32).toInt8.toInt32) (gA σ 112) 65536) u)) 112 (wrS (cpy (fun j => ((gA σ 69) j).toInt8.toInt32) (cpy (fun _ => (0 : Int32).toInt8.toInt32) (gA σ 112) 65536) u) (gA σ 100) k4)) (((4 * k4) + 4096)) ((gA (rA (rA (rA (pI (rA σ 111 (cpy (fun j => ((gA σ 101) j).toInt8.toInt32) (gA σ 111) m)) 66 50 (nI m)) 112 (cpy (fun _ => (0 : Int32).toInt8.toInt32) (gA σ 112) 65536)) 112 (cpy (fun j => ((gA σ 69) j).toInt8.toInt32) (cpy (fun _ => (0 : Int32).toInt8.toInt32) (gA σ 112) 65536) u)) 112 (wrS (cpy (fun j => ((gA σ 69) j).toInt8.toInt32) (cpy (fun _ => (0 : Int32).toInt8.toInt32) (gA σ 112) 65536) u) (gA σ 100) k4)) 100 k4)) (Rf_rA (Rf_rA (Rf_rA (Rf_pI (Rf_rA hR))))) (by omega))
                    rw [show (((4 * k4) + 4096) + 131072) = ((4 * k4) + 135168) from by omega] at c13
                    refine Wx_cVv 66 14 [.int (nI ((4 * k4) + 135168)), .int (gA (rA (rA (rA (pI (rA σ 111 (cpy (fun j => ((gA σ 101) j).toInt8.toInt32) (gA σ 111) m)) 66 50 (nI m)) 112 (cpy (fun _ => (0 : Int32).toInt8.toInt32) (gA σ 112) 65536)) 112 (cpy (fun j => ((gA σ 69) j).toInt8.toInt32) (cpy (fun _ => (0 : Int32).toInt8.toInt32) (gA σ 112) 65536) u)) 112 (wrS (cpy (fun j => ((gA σ 69) j).toInt8.toInt32) (cpy (fun _ => (0 : Int32).toInt8.toInt32) (gA σ 112) 65536) u) (gA σ 100) k4)) 100 k4)] 2 m_X14_dataPut l_X14_648 i_X14_dataPut rfl rfl (show 66 < 122 by decide) dX14_arm_160 c13 (show _ ≤ d + 1 from Nat.le_refl _) (Nat.le_refl _) rfl (Nat.le_of_ble_eq_true rfl) rfl ?_
                    clear c13
                    refine Wx_iinc3 dX14_arm_163 rfl (Nat.le_of_ble_eq_true rfl) ?_
                    rw [show (((nI k4) : Int32) + Int32.ofInt 1) = nI (k4 + 1) from addE (a := k4) (b := 1) rfl rfl (by omega)]
                    refine Wx_goto 129 dX14_arm_166 (by decide) ?_
                    refine Wx_eq (show (t_wWM (rA (rA (rA (pI (rA σ 111 (cpy (fun j => ((gA σ 101) j).toInt8.toInt32) (gA σ 111) m)) 66 50 (nI m)) 112 (cpy (fun _ => (0 : Int32).toInt8.toInt32) (gA σ 112) 65536)) 112 (cpy (fun j => ((gA σ 69) j).toInt8.toInt32) (cpy (fun _ => (0 : Int32).toInt8.toInt32) (gA σ 112) 65536) u)) 112 (wrS (cpy (fun j => ((gA σ 69) j).toInt8.toInt32) (cpy (fun _ => (0 : Int32).toInt8.toInt32) (gA σ 112) 65536) u) (gA σ 100) k4)) (((4 * k4) + 4096)) ((gA (rA (rA (rA (pI (rA σ 111 (cpy (fun j => ((gA σ 101) j).toInt8.toInt32) (gA σ 111) m)) 66 50 (nI m)) 112 (cpy (fun _ => (0 : Int32).toInt8.toInt32) (gA σ 112) 65536)) 112 (cpy (fun j => ((gA σ 69) j).toInt8.toInt32) (cpy (fun _ => (0 : Int32).toInt8.toInt32) (gA σ 112) 65536) u)) 112 (wrS (cpy (fun j => ((gA σ 69) j).toInt8.toInt32) (cpy (fun _ => (0 : Int32).toInt8.toInt32) (gA σ 112) 65536) u) (gA σ 100) k4)) 100 k4))) = (rA (rA (rA (pI (rA σ 111 (cpy (fun j => ((gA σ 101) j).toInt8.toInt32) (gA σ 111) m)) 66 50 (nI m)) 112 (cpy (fun _ => (0 : Int32).toInt8.toInt32) (gA σ 112) 65536)) 112 (cpy (fun j => ((gA σ 69) j).toInt8.toInt32) (cpy (fun _ => (0 : Int32).toInt8.toInt32) (gA σ 112) 65536) u)) 112 (wrS (cpy (fun j => ((gA σ 69) j).toInt8.toInt32) (cpy (fun _ => (0 : Int32).toInt8.toInt32) (gA σ 112) 65536) u) (gA σ 100) (k4 + 1))) from wrS_stepMr (rA (rA (pI (rA σ 111 (cpy (fun j => ((gA σ 101) j).toInt8.toInt32) (gA σ 111) m)) 66 50 (nI m)) 112 (cpy (fun _ => (0 : Int32).toInt8.toInt32) (gA σ 112) 65536)) 112 (cpy (fun j => ((gA σ 69) j).toInt8.toInt32) (cpy (fun _ => (0 : Int32).toInt8.toInt32) (gA σ 112) 65536) u)) _ _ k4 rfl rfl) ?_
                    exact Kk4
                  ·
                    refine Wx_iload3 dX14_arm_129 ?_
                    refine Wx_bipush (v := 8) dX14_arm_130 (by decide) ?_
                    refine Wx_aload0 dX14_arm_132 ?_
                    refine Wx_getR 14 34 95 dX14_arm_133 f_X14_89 rfl (Nat.le_of_ble_eq_true rfl) rfl (gR_rA.trans (gR_rA.trans (gR_rA.trans (gR_pI.trans (gR_rA.trans hC))))) ?_
                    refine Wx_getI 13 3 dX14_arm_136 f_X14_380 rfl (Nat.le_of_ble_eq_true rfl) rfl ?_
                    rw [show gI (rA (rA (rA (pI (rA σ 111 (cpy (fun j => ((gA σ 101) j).toInt8.toInt32) (gA σ 111) m)) 66 50 (nI m)) 112 (cpy (fun _ => (0 : Int32).toInt8.toInt32) (gA σ 112) 65536)) 112 (cpy (fun j => ((gA σ 69) j).toInt8.toInt32) (cpy (fun _ => (0 : Int32).toInt8.toInt32) (gA σ 112) 65536) u)) 112 (wrS (cpy (fun j => ((gA σ 69) j).toInt8.toInt32) (cpy (fun _ => (0 : Int32).toInt8.toInt32) (gA σ 112) 65536) u) (gA σ 100) (8 * s))) 95 3 = (nI s) from (gI_rA.trans (gI_rA.trans (gI_rA.trans ((gI_pI (by decide)).trans (gI_rA.trans es)))))]
                    refine Wx_imul dX14_arm_139 ?_
                    rw [show ((8 * (nI s)) : Int32) = nI (8 * s) from mulN rfl rfl]
                    refine Wx_icmp_ge 169 dX14_arm_140 (by decide) (fun _ => ?_) (fun h => absurd ((cLe (a := (8 * s)) (b := (8 * s)) rfl rfl (by omega) (by omega)).mpr (by omega)) h)
                    refine Wx_aload0 dX14_arm_169 ?_
                    refine Wx_ldcw dX14_arm_170 k_X14_410 ?_
                    refine Wx_aload0 dX14_arm_173 ?_
                    refine Wx_getI 14 4 dX14_arm_174 f_X14_161 rfl (Nat.le_of_ble_eq_true rfl) rfl ?_
                    rw [show gI (rA (rA (rA (pI (rA σ 111 (cpy (fun j => ((gA σ 101) j).toInt8.toInt32) (gA σ 111) m)) 66 50 (nI m)) 112 (cpy (fun _ => (0 : Int32).toInt8.toInt32) (gA σ 112) 65536)) 112 (cpy (fun j => ((gA σ 69) j).toInt8.toInt32) (cpy (fun _ => (0 : Int32).toInt8.toInt32) (gA σ 112) 65536) u)) 112 (wrS (cpy (fun j => ((gA σ 69) j).toInt8.toInt32) (cpy (fun _ => (0 : Int32).toInt8.toInt32) (gA σ 112) 65536) u) (gA σ 100) (8 * s))) 66 4 = (nI u) from (gI_rA.trans (gI_rA.trans (gI_rA.trans ((gI_pI (by decide)).trans (gI_rA.trans eu)))))]
                    have c15 := (w_wWM (d + 0) (rA (rA (rA (pI (rA σ 111 (cpy (fun j => ((gA σ 101) j).toInt8.toInt32) (gA σ 111) m)) 66 50 (nI m)) 112 (cpy (fun _ => (0 : Int32).toInt8.toInt32) (gA σ 112) 65536)) 112 (cpy (fun j => ((gA σ 69) j).toInt8.toInt32) (cpy (fun _ => (0 : Int32).toInt8.toInt32) (gA σ 112) 65536) u)) 112 (wrS (cpy (fun j => ((gA σ 69) j).toInt8.toInt32) (cpy (fun _ => (0 : Int32).toInt8.toInt32) (gA σ 112) 65536) u) (gA σ 100) (8 * s))) (8192) ((nI u)) (Rf_rA (Rf_rA (Rf_rA (Rf_pI (Rf_rA hR))))) (by omega))
                    rw [show (8192 + 131072) = 139264 from by omega] at c15
                    refine Wx_cVv 66 14 [.int 139264, .int (nI u)] 2 m_X14_dataPut l_X14_648 i_X14_dataPut rfl rfl (show 66 < 122 by decide) dX14_arm_177 c15 (show _ ≤ d + 1 from Nat.le_refl _) (Nat.le_refl _) rfl (Nat.le_of_ble_eq_true rfl) rfl ?_
                    clear c15
                    refine Wx_iconst (v := 0) dX14_arm_180 (by decide) ?_
                    refine Wx_istore3 dX14_arm_181 rfl (Nat.le_of_ble_eq_true rfl) ?_
                    refine Wx_eq (show (t_wWM (rA (rA (rA (pI (rA σ 111 (cpy (fun j => ((gA σ 101) j).toInt8.toInt32) (gA σ 111) m)) 66 50 (nI m)) 112 (cpy (fun _ => (0 : Int32).toInt8.toInt32) (gA σ 112) 65536)) 112 (cpy (fun j => ((gA σ 69) j).toInt8.toInt32) (cpy (fun _ => (0 : Int32).toInt8.toInt32) (gA σ 112) 65536) u)) 112 (wrS (cpy (fun j => ((gA σ 69) j).toInt8.toInt32) (cpy (fun _ => (0 : Int32).toInt8.toInt32) (gA σ 112) 65536) u) (gA σ 100) (8 * s))) (8192) ((nI u))) = (rA (t_wWM (rA (rA (rA (pI (rA σ 111 (cpy (fun j => ((gA σ 101) j).toInt8.toInt32) (gA σ 111) m)) 66 50 (nI m)) 112 (cpy (fun _ => (0 : Int32).toInt8.toInt32) (gA σ 112) 65536)) 112 (cpy (fun j => ((gA σ 69) j).toInt8.toInt32) (cpy (fun _ => (0 : Int32).toInt8.toInt32) (gA σ 112) 65536) u)) 112 (wrS (cpy (fun j => ((gA σ 69) j).toInt8.toInt32) (cpy (fun _ => (0 : Int32).toInt8.toInt32) (gA σ 112) 65536) u) (gA σ 100) (8 * s))) (8192) ((nI u))) 113 (cpy (fun _ => (0 : Int32)) (gA (t_wWM (rA (rA (rA (pI (rA σ 111 (cpy (fun j => ((gA σ 101) j).toInt8.toInt32) (gA σ 111) m)) 66 50 (nI m)) 112 (cpy (fun _ => (0 : Int32).toInt8.toInt32) (gA σ 112) 65536)) 112 (cpy (fun j => ((gA σ 69) j).toInt8.toInt32) (cpy (fun _ => (0 : Int32).toInt8.toInt32) (gA σ 112) 65536) u)) 112 (wrS (cpy (fun j => ((gA σ 69) j).toInt8.toInt32) (cpy (fun _ => (0 : Int32).toInt8.toInt32) (gA σ 112) 65536) u) (gA σ 100) (8 * s))) (8192) ((nI u))) 113) 0)) from rA_cpy0r (t_wWM (rA (rA (rA (pI (rA σ 111 (cpy (fun j => ((gA σ 101) j).toInt8.toInt32) (gA σ 111) m)) 66 50 (nI m)) 112 (cpy (fun _ => (0 : Int32).toInt8.toInt32) (gA σ 112) 65536)) 112 (cpy (fun j => ((gA σ 69) j).toInt8.toInt32) (cpy (fun _ => (0 : Int32).toInt8.toInt32) (gA σ 112) 65536) u)) 112 (wrS (cpy (fun j => ((gA σ 69) j).toInt8.toInt32) (cpy (fun _ => (0 : Int32).toInt8.toInt32) (gA σ 112) 65536) u) (gA σ 100) (8 * s))) (8192) ((nI u))) 113 _ rfl) ?_
                    refine Wx_count (fun k5 => [.ref 66, .int pl, .int sk, .int (nI k5)]) [] (fun k5 => (rA (t_wWM (rA (rA (rA (pI (rA σ 111 (cpy (fun j => ((gA σ 101) j).toInt8.toInt32) (gA σ 111) m)) 66 50 (nI m)) 112 (cpy (fun _ => (0 : Int32).toInt8.toInt32) (gA σ 112) 65536)) 112 (cpy (fun j => ((gA σ 69) j).toInt8.toInt32) (cpy (fun _ => (0 : Int32).toInt8.toInt32) (gA σ 112) 65536) u)) 112 (wrS (cpy (fun j => ((gA σ 69) j).toInt8.toInt32) (cpy (fun _ => (0 : Int32).toInt8.toInt32) (gA σ 112) 65536) u) (gA σ 100) (8 * s))) (8192) ((nI u))) 113 (cpy (fun _ => (0 : Int32)) (gA (t_wWM (rA (rA (rA (pI (rA σ 111 (cpy (fun j => ((gA σ 101) j).toInt8.toInt32) (gA σ 111) m)) 66 50 (nI m)) 112 (cpy (fun _ => (0 : Int32).toInt8.toInt32) (gA σ 112) 65536)) 112 (cpy (fun j => ((gA σ 69) j).toInt8.toInt32) (cpy (fun _ => (0 : Int32).toInt8.toInt32) (gA σ 112) 65536) u)) 112 (wrS (cpy (fun j => ((gA σ 69) j).toInt8.toInt32) (cpy (fun _ => (0 : Int32).toInt8.toInt32) (gA σ 112) 65536) u) (gA σ 100) (8 * s))) (8192) ((nI u))) 113) k5))) 0 8 ?_ ?_ (by omega)
                    · intro k5 hk5a hk5b Kk5
                      refine Wx_iload3 dX14_arm_182 ?_
                      refine Wx_bipush (v := 8) dX14_arm_183 (by decide) ?_
                      refine Wx_icmp_ge 201 dX14_arm_185 (by decide) (fun h => absurd h (fun q => absurd ((cLe (a := 8) (b := k5) rfl rfl (by omega) (by omega)).mp q) (by omega))) (fun _ => ?_)
                      refine Wx_aload0 dX14_arm_188 ?_
                      refine Wx_getR 14 52 113 dX14_arm_189 f_X14_125 rfl (Nat.le_of_ble_eq_true rfl) rfl ((Rf_rA (Rf_of (k_wWM (rA (rA (rA (pI (rA σ 111 (cpy (fun j => ((gA σ 101) j).toInt8.toInt32) (gA σ 111) m)) 66 50 (nI m)) 112 (cpy (fun _ => (0 : Int32).toInt8.toInt32) (gA σ 112) 65536)) 112 (cpy (fun j => ((gA σ 69) j).toInt8.toInt32) (cpy (fun _ => (0 : Int32).toInt8.toInt32) (gA σ 112) 65536) u)) 112 (wrS (cpy (fun j => ((gA σ 69) j).toInt8.toInt32) (cpy (fun _ => (0 : Int32).toInt8.toInt32) (gA σ 112) 65536) u) (gA σ 100) (8 * s))) (8192) ((nI u))) (Rf_rA (Rf_rA (Rf_rA (Rf_pI (Rf_rA hR))))))) 66 52 113 (by decide)) ?_
                      refine Wx_iload3 dX14_arm_192 ?_
                      refine Wx_iconst (v := 0) dX14_arm_193 (by decide) ?_
                      refine Wx_iastore 8 dX14_arm_194 rfl (Nat.le_of_ble_eq_true rfl) (vp_in_nI (show k5 < 8 by omega) (by decide)) ?_
                      rw [show ((nI k5) : Int32).toNatClampNeg = k5 from nI_clamp (by omega)]
                      refine Wx_iinc3 dX14_arm_195 rfl (Nat.le_of_ble_eq_true rfl) ?_
                      rw [show (((nI k5) : Int32) + Int32.ofInt 1) = nI (k5 + 1) from addE (a := k5) (b := 1) rfl rfl (by omega)]
                      refine Wx_goto 182 dX14_arm_198 (by decide) ?_
                      refine Wx_eq (show (pA (rA (t_wWM (rA (rA (rA (pI (rA σ 111 (cpy (fun j => ((gA σ 101) j).toInt8.toInt32) (gA σ 111) m)) 66 50 (nI m)) 112 (cpy (fun _ => (0 : Int32).toInt8.toInt32) (gA σ 112) 65536)) 112 (cpy (fun j => ((gA σ 69) j).toInt8.toInt32) (cpy (fun _ => (0 : Int32).toInt8.toInt32) (gA σ 112) 65536) u)) 112 (wrS (cpy (fun j => ((gA σ 69) j).toInt8.toInt32) (cpy (fun _ => (0 : Int32).toInt8.toInt32) (gA σ 112) 65536) u) (gA σ 100) (8 * s))) (8192) ((nI u))) 113 (cpy (fun _ => (0 : Int32)) (gA (t_wWM (rA (rA (rA (pI (rA σ 111 (cpy (fun j => ((gA σ 101) j).toInt8.toInt32) (gA σ 111) m)) 66 50 (nI m)) 112 (cpy (fun _ => (0 : Int32).toInt8.toInt32) (gA σ 112) 65536)) 112 (cpy (fun j => ((gA σ 69) j).toInt8.toInt32) (cpy (fun _ => (0 : Int32).toInt8.toInt32) (gA σ 112) 65536) u)) 112 (wrS (cpy (fun j => ((gA σ 69) j).toInt8.toInt32) (cpy (fun _ => (0 : Int32).toInt8.toInt32) (gA σ 112) 65536) u) (gA σ 100) (8 * s))) (8192) ((nI u))) 113) k5)) 113 k5 0) = (rA (t_wWM (rA (rA (rA (pI (rA σ 111 (cpy (fun j => ((gA σ 101) j).toInt8.toInt32) (gA σ 111) m)) 66 50 (nI m)) 112 (cpy (fun _ => (0 : Int32).toInt8.toInt32) (gA σ 112) 65536)) 112 (cpy (fun j => ((gA σ 69) j).toInt8.toInt32) (cpy (fun _ => (0 : Int32).toInt8.toInt32) (gA σ 112) 65536) u)) 112 (wrS (cpy (fun j => ((gA σ 69) j).toInt8.toInt32) (cpy (fun _ => (0 : Int32).toInt8.toInt32) (gA σ 112) 65536) u) (gA σ 100) (8 * s))) (8192) ((nI u))) 113 (cpy (fun _ => (0 : Int32)) (gA (t_wWM (rA (rA (rA (pI (rA σ 111 (cpy (fun j => ((gA σ 101) j).toInt8.toInt32) (gA σ 111) m)) 66 50 (nI m)) 112 (cpy (fun _ => (0 : Int32).toInt8.toInt32) (gA σ 112) 65536)) 112 (cpy (fun j => ((gA σ 69) j).toInt8.toInt32) (cpy (fun _ => (0 : Int32).toInt8.toInt32) (gA σ 112) 65536) u)) 112 (wrS (cpy (fun j => ((gA σ 69) j).toInt8.toInt32) (cpy (fun _ => (0 : Int32).toInt8.toInt32) (gA σ 112) 65536) u) (gA σ 100) (8 * s))) (8192) ((nI u))) 113) (k5 + 1))) from pA_cpy (t_wWM (rA (rA (rA (pI (rA σ 111 (cpy (fun j => ((gA σ 101) j).toInt8.toInt32) (gA σ 111) m)) 66 50 (nI m)) 112 (cpy (fun _ => (0 : Int32).toInt8.toInt32) (gA σ 112) 65536)) 112 (cpy (fun j => ((gA σ 69) j).toInt8.toInt32) (cpy (fun _ => (0 : Int32).toInt8.toInt32) (gA σ 112) 65536) u)) 112 (wrS (cpy (fun j => ((gA σ 69) j).toInt8.toInt32) (cpy (fun _ => (0 : Int32).toInt8.toInt32) (gA σ 112) 65536) u) (gA σ 100) (8 * s))) (8192) ((nI u))) 113 k5 _ _ rfl) ?_
                      exact Kk5
                    ·
                      refine Wx_iload3 dX14_arm_182 ?_
                      refine Wx_bipush (v := 8) dX14_arm_183 (by decide) ?_
                      refine Wx_icmp_ge 201 dX14_arm_185 (by decide) (fun _ => ?_) (fun h => absurd ((cLe (a := 8) (b := 8) rfl rfl (by omega) (by omega)).mpr (by omega)) h)
                      refine Wx_aload0 dX14_arm_201 ?_
                      refine Wx_getR 14 52 113 dX14_arm_202 f_X14_125 rfl (Nat.le_of_ble_eq_true rfl) rfl ((Rf_rA (Rf_of (k_wWM (rA (rA (rA (pI (rA σ 111 (cpy (fun j => ((gA σ 101) j).toInt8.toInt32) (gA σ 111) m)) 66 50 (nI m)) 112 (cpy (fun _ => (0 : Int32).toInt8.toInt32) (gA σ 112) 65536)) 112 (cpy (fun j => ((gA σ 69) j).toInt8.toInt32) (cpy (fun _ => (0 : Int32).toInt8.toInt32) (gA σ 112) 65536) u)) 112 (wrS (cpy (fun j => ((gA σ 69) j).toInt8.toInt32) (cpy (fun _ => (0 : Int32).toInt8.toInt32) (gA σ 112) 65536) u) (gA σ 100) (8 * s))) (8192) ((nI u))) (Rf_rA (Rf_rA (Rf_rA (Rf_pI (Rf_rA hR))))))) 66 52 113 (by decide)) ?_
                      refine Wx_iconst (v := 3) dX14_arm_205 (by decide) ?_
                      refine Wx_iload1 dX14_arm_206 ?_
                      refine Wx_iastore 8 dX14_arm_207 rfl (Nat.le_of_ble_eq_true rfl) (vp_in_iff.mpr ⟨by decide, by decide⟩) ?_
                      rw [show (3 : Int32).toNatClampNeg = 3 from rfl]
                      refine Wx_aload0 dX14_arm_208 ?_
                      refine Wx_getR 14 52 113 dX14_arm_209 f_X14_125 rfl (Nat.le_of_ble_eq_true rfl) rfl ((Rf_pA (Rf_rA (Rf_of (k_wWM (rA (rA (rA (pI (rA σ 111 (cpy (fun j => ((gA σ 101) j).toInt8.toInt32) (gA σ 111) m)) 66 50 (nI m)) 112 (cpy (fun _ => (0 : Int32).toInt8.toInt32) (gA σ 112) 65536)) 112 (cpy (fun j => ((gA σ 69) j).toInt8.toInt32) (cpy (fun _ => (0 : Int32).toInt8.toInt32) (gA σ 112) 65536) u)) 112 (wrS (cpy (fun j => ((gA σ 69) j).toInt8.toInt32) (cpy (fun _ => (0 : Int32).toInt8.toInt32) (gA σ 112) 65536) u) (gA σ 100) (8 * s))) (8192) ((nI u))) (Rf_rA (Rf_rA (Rf_rA (Rf_pI (Rf_rA hR)))))))) 66 52 113 (by decide)) ?_
                      refine Wx_bipush (v := 6) dX14_arm_212 (by decide) ?_
                      refine Wx_sipush (v := 12288) dX14_arm_214 (by decide) ?_
                      refine Wx_iastore 8 dX14_arm_217 rfl (Nat.le_of_ble_eq_true rfl) (vp_in_iff.mpr ⟨by decide, by decide⟩) ?_
                      rw [show (6 : Int32).toNatClampNeg = 6 from rfl]
                      refine Wx_aload0 dX14_arm_218 ?_
                      refine Wx_getR 14 52 113 dX14_arm_219 f_X14_125 rfl (Nat.le_of_ble_eq_true rfl) rfl ((Rf_pA (Rf_pA (Rf_rA (Rf_of (k_wWM (rA (rA (rA (pI (rA σ 111 (cpy (fun j => ((gA σ 101) j).toInt8.toInt32) (gA σ 111) m)) 66 50 (nI m)) 112 (cpy (fun _ => (0 : Int32).toInt8.toInt32) (gA σ 112) 65536)) 112 (cpy (fun j => ((gA σ 69) j).toInt8.toInt32) (cpy (fun _ => (0 : Int32).toInt8.toInt32) (gA σ 112) 65536) u)) 112 (wrS (cpy (fun j => ((gA σ 69) j).toInt8.toInt32) (cpy (fun _ => (0 : Int32).toInt8.toInt32) (gA σ 112) 65536) u) (gA σ 100) (8 * s))) (8192) ((nI u))) (Rf_rA (Rf_rA (Rf_rA (Rf_pI (Rf_rA hR))))))))) 66 52 113 (by decide)) ?_
                      refine Wx_bipush (v := 7) dX14_arm_222 (by decide) ?_
                      refine Wx_sipush (v := 28672) dX14_arm_224 (by decide) ?_
                      refine Wx_iastore 8 dX14_arm_227 rfl (Nat.le_of_ble_eq_true rfl) (vp_in_iff.mpr ⟨by decide, by decide⟩) ?_
                      rw [show (7 : Int32).toNatClampNeg = 7 from rfl]
                      refine Wx_aload0 dX14_arm_228 ?_
                      refine Wx_getR 14 52 113 dX14_arm_229 f_X14_125 rfl (Nat.le_of_ble_eq_true rfl) rfl ((Rf_pA (Rf_pA (Rf_pA (Rf_rA (Rf_of (k_wWM (rA (rA (rA (pI (rA σ 111 (cpy (fun j => ((gA σ 101) j).toInt8.toInt32) (gA σ 111) m)) 66 50 (nI m)) 112 (cpy (fun _ => (0 : Int32).toInt8.toInt32) (gA σ 112) 65536)) 112 (cpy (fun j => ((gA σ 69) j).toInt8.toInt32) (cpy (fun _ => (0 : Int32).toInt8.toInt32) (gA σ 112) 65536) u)) 112 (wrS (cpy (fun j => ((gA σ 69) j).toInt8.toInt32) (cpy (fun _ => (0 : Int32).toInt8.toInt32) (gA σ 112) 65536) u) (gA σ 100) (8 * s))) (8192) ((nI u))) (Rf_rA (Rf_rA (Rf_rA (Rf_pI (Rf_rA hR)))))))))) 66 52 113 (by decide)) ?_
                      refine Wx_iconst (v := 5) dX14_arm_232 (by decide) ?_
                      refine Wx_iload2 dX14_arm_233 ?_
                      refine Wx_iastore 8 dX14_arm_234 rfl (Nat.le_of_ble_eq_true rfl) (vp_in_iff.mpr ⟨by decide, by decide⟩) ?_
                      rw [show (5 : Int32).toNatClampNeg = 5 from rfl]
                      refine Wx_aload0 dX14_arm_235 ?_
                      refine Wx_iconst (v := 0) dX14_arm_236 (by decide) ?_
                      refine Wx_putI 14 53 dX14_arm_237 f_X14_651 rfl (Nat.le_of_ble_eq_true rfl) rfl rfl ?_
                      refine Wx_aload0 dX14_arm_240 ?_
                      refine Wx_ldc dX14_arm_241 k_X14_121 ?_
                      refine Wx_putI 14 54 dX14_arm_243 f_X14_128 rfl (Nat.le_of_ble_eq_true rfl) rfl rfl ?_
                      refine Wx_aload0 dX14_arm_246 ?_
                      refine Wx_iconst (v := 0) dX14_arm_247 (by decide) ?_
                      refine Wx_putI 14 55 dX14_arm_248 f_X14_693 rfl (Nat.le_of_ble_eq_true rfl) rfl rfl ?_
                      refine Wx_iconst (v := 1) dX14_arm_251 (by decide) ?_
                      exact Wx_zreturn dX14_arm_252 rfl (by decide) rfl (⟨by rw [r_armM_95, if_neg h1, if_neg h2, if_neg h3, if_neg h4, if_pos h5], by rw [t_armM_95, if_neg h1, if_neg h2, if_neg h3, if_neg h4, if_pos h5]⟩)
          ·
            refine Wx_iconst (v := 0) dX14_arm_31 (by decide) ?_
            exact Wx_zreturn dX14_arm_32 rfl (by decide) rfl (⟨by rw [r_armM_95, if_neg h1, if_neg h2, if_neg h3, if_neg h4, if_neg h5], by rw [t_armM_95, if_neg h1, if_neg h2, if_neg h3, if_neg h4, if_neg h5]⟩)

/-! ===== the invariant ===== -/
/-- what a grammar's program must be beyond its fields (for match): to be chosen by whoever uses it -/
abbrev PXt : Type := (Nat → Int32) → (Nat → Int32) → (Nat → Int32) → (Nat → Int32) → (Nat → Int32) → (Nat → Int32) → Int32 → Int32 → Int32 → Prop
/-- what a check's answer is: of the code's bytes and length, the reason and the place -/
abbrev CKt : Type := (Nat → Int32) → Int32 → Int32 → Int32 → Prop
def ITape (j : Nat) (σ : Hp) : Prop := ∃ t : Nat, t ≤ 20 * j ∧ gI σ 0 1 = nI t ∧ gI σ 66 2 = nI t ∧ (∀ k, k < 4000 → gA σ 1 k = gA σ 68 k) ∧ (∀ k, k < 4000 → (gA σ 1 k).toInt8.toInt32 = gA σ 1 k)
def ISubj (j : Nat) (σ : Hp) : Prop := ∃ t : Nat, t ≤ 20 * j ∧ gI σ 0 3 = nI t ∧ gI σ 66 4 = nI t ∧ (∀ k, k < t → gA σ 2 k = gA σ 69 k) ∧ (∀ k, k < 4000 → (gA σ 2 k).toInt8.toInt32 = gA σ 2 k)
def IFlt (σ : Hp) : Prop := (gI σ 66 9 = 0 ∧ gI σ 0 4 = -1 ∧ gI σ 0 5 = -1) ∨ (gI σ 66 9 = 1 ∧ gI σ 0 4 = gI σ 66 7 ∧ gI σ 0 5 = gI σ 66 8)
/-- the program in cells P .. of the class and that in cells Q .. of the reference -/
def PMat (P Q : Nat) (σ : Hp) : Prop := ∃ R n s m : Nat, (1 ≤ R ∧ R ≤ 60 ∧ n ≤ 2000 ∧ s ≤ 128 ∧ m ≤ 61440) ∧ (gI σ P 8 = nI R ∧ gI σ Q 0 = nI R) ∧ gI σ P 9 = gI σ Q 1 ∧ (gI σ P 10 = nI n ∧ gI σ Q 2 = nI n) ∧ (gI σ P 11 = nI s ∧ gI σ Q 3 = nI s) ∧ (gI σ P 12 = nI m ∧ gI σ Q 4 = nI m) ∧
  (∀ i, i < n → gA σ (P + 1) i = gA σ (Q + 1) i ∧ gA σ (P + 2) i = gA σ (Q + 2) i ∧ gA σ (P + 3) i = gA σ (Q + 3) i ∧ gA σ (P + 4) i = gA σ (Q + 4) i) ∧ (∀ k, k < 8 * s → gA σ (P + 5) k = gA σ (Q + 5) k) ∧ (∀ i, i < m → gA σ 45 i = gA σ (Q + 6) i ∧ (gA σ 45 i).toInt8.toInt32 = gA σ 45 i) ∧
  (∀ k, k < R → (∀ w, w < 3 → (gA σ (P + 6) k >>> (nI w &&& 31)) &&& 1 = gA σ (Q + 7) (12 * k + w)) ∧ gA σ (P + 8) k = gA σ (Q + 7) (12 * k + 3) ∧ (∀ w, w < 8 → gA σ (P + 7) (8 * k + w) = gA σ (Q + 7) (12 * k + w + 4)))
def IProg (PX : PXt) (σ : Hp) : Prop := ∃ P P' Q Q' : Nat, ((P = 21 ∧ P' = 30) ∨ (P = 30 ∧ P' = 21)) ∧ ((Q = 87 ∧ Q' = 95) ∨ (Q = 95 ∧ Q' = 87)) ∧ gR σ 0 9 = some P ∧ gR σ 0 10 = some P' ∧ gR σ 66 34 = some Q ∧ gR σ 66 33 = some Q' ∧ (∀ k, k < 61440 → (gA σ 45 k).toInt8.toInt32 = gA σ 45 k) ∧
  ((gI σ 66 35 = 0 ∧ gI σ P 8 = 0 ∧ gI σ P 9 = 0 ∧ gI σ P 10 = 0 ∧ gI σ P 11 = 0 ∧ gI σ P 12 = 0 ∧ gI σ Q 0 = 0 ∧ gI σ Q 2 = 0 ∧ gI σ Q 3 = 0 ∧ gI σ Q 4 = 0) ∨ (gI σ 66 35 = 1 ∧ PMat P Q σ ∧ PX (gA σ (Q + 1)) (gA σ (Q + 2)) (gA σ (Q + 3)) (gA σ (Q + 4)) (gA σ (Q + 5)) (gA σ (Q + 6)) (gI σ Q 2) (gI σ Q 3) (gI σ Q 4)))
def IProc (σ : Hp) : Prop := (∃ m : Nat, m ≤ 61440 ∧ gI σ 50 3 = nI m ∧ gI σ 66 50 = nI m ∧ (∀ k, k < m → gA σ 53 k = gA σ 111 k)) ∧ (∀ k, k < 61440 → (gA σ 53 k).toInt8.toInt32 = gA σ 53 k) ∧ (∀ k, k < 8 → gA σ 51 k = gA σ 113 k) ∧ gI σ 52 0 = gI σ 66 53 ∧ gI σ 52 0 &&& 2261 = gI σ 52 0 ∧ gI σ 50 5 = gI σ 66 54 ∧ gI σ 50 6 = gI σ 66 55 ∧ (∀ k, k < 65536 → gA σ 54 k = gA σ 112 k) ∧ (∀ k, k < 65536 → (gA σ 54 k).toInt8.toInt32 = gA σ 54 k)
def IChk (CK : CKt) (σ : Hp) : Prop := gI σ 56 8 = 0 ∨ (gI σ 56 8 = 1 ∧ CK (gA σ 53) (gI σ 50 3) (gI σ 56 9) (gI σ 56 10))
def IOut (σ : Hp) : Prop := gI σ 63 3 = gI σ 66 89 ∧ ((gI σ 66 90 < 0 ∧ gI σ 63 2 = 0) ∨ (¬ gI σ 66 90 < 0 ∧ ∃ e : Nat, e ≤ 1000 ∧ gI σ 63 2 = nI e ∧ gI σ 66 87 = nI e ∧ ∀ i, i < e → gA σ 64 i = gA σ 120 i ∧ gA σ 65 i = gA σ 121 i ∧ ¬ gA σ 120 i < 0))
/-- what stays in the reference's own fields: bounds -/
def IOwn (σ : Hp) : Prop := (∃ e : Nat, e ≤ 1002 ∧ gI σ 66 87 = nI e) ∧ gI σ 39 7 = gI σ 39 7
abbrev Inv (PX : PXt) (CK : CKt) (j : Nat) (σ : Hp) : Prop := Rf σ ∧ ITape j σ ∧ ISubj j σ ∧ IFlt σ ∧ IProg PX σ ∧ IProc σ ∧ IChk CK σ ∧ IOut σ ∧ IOwn σ
theorem Inv.rf {PX : PXt} {CK : CKt} {j : Nat} {σ : Hp} (H : Inv PX CK j σ) : Rf σ := H.1
theorem Inv.tape {PX : PXt} {CK : CKt} {j : Nat} {σ : Hp} (H : Inv PX CK j σ) : ITape j σ := H.2.1
theorem Inv.subj {PX : PXt} {CK : CKt} {j : Nat} {σ : Hp} (H : Inv PX CK j σ) : ISubj j σ := H.2.2.1
theorem Inv.flt {PX : PXt} {CK : CKt} {j : Nat} {σ : Hp} (H : Inv PX CK j σ) : IFlt σ := H.2.2.2.1
theorem Inv.prog {PX : PXt} {CK : CKt} {j : Nat} {σ : Hp} (H : Inv PX CK j σ) : IProg PX σ := H.2.2.2.2.1
theorem Inv.proc {PX : PXt} {CK : CKt} {j : Nat} {σ : Hp} (H : Inv PX CK j σ) : IProc σ := H.2.2.2.2.2.1
theorem Inv.chk {PX : PXt} {CK : CKt} {j : Nat} {σ : Hp} (H : Inv PX CK j σ) : IChk CK σ := H.2.2.2.2.2.2.1
theorem Inv.out {PX : PXt} {CK : CKt} {j : Nat} {σ : Hp} (H : Inv PX CK j σ) : IOut σ := H.2.2.2.2.2.2.2.1
theorem Inv.own {PX : PXt} {CK : CKt} {j : Nat} {σ : Hp} (H : Inv PX CK j σ) : IOwn σ := H.2.2.2.2.2.2.2.2
/-- the cells of programs and images -/
def pcell (c : Nat) : Bool := (decide (21 ≤ c) && decide (c ≤ 38)) || decide (c = 45) || (decide (87 ≤ c) && decide (c ≤ 102))
def Keeps (σ τ : Hp) : Prop := ∀ c, pcell c = true → τ.1 c = σ.1 c ∧ τ.2.2.1 c = σ.2.2.1 c
theorem keep_pI {σ τ : Hp} {i k : Nat} {v : Int32} (h : Keeps σ τ) (hi : pcell i = false) : Keeps σ (pI τ i k v) := fun c hc =>
  ⟨(up2_ne (fun q => by rw [q, hi] at hc; cases hc)).trans (h c hc).1, (h c hc).2⟩
theorem keep_pA {σ τ : Hp} {i k : Nat} {v : Int32} (h : Keeps σ τ) (hi : pcell i = false) : Keeps σ (pA τ i k v) := fun c hc =>
  ⟨(h c hc).1, (up2_ne (fun q => by rw [q, hi] at hc; cases hc)).trans (h c hc).2⟩
theorem keep_rA {σ τ : Hp} {i : Nat} {r : Nat → Int32} (h : Keeps σ τ) (hi : pcell i = false) : Keeps σ (rA τ i r) := fun c hc =>
  ⟨(h c hc).1, (by show upr τ.2.2.1 i r c = _; unfold upr; rw [if_neg (fun q => by rw [q, hi] at hc; cases hc)]; exact (h c hc).2)⟩
theorem keep_0 (σ : Hp) : Keeps σ σ := fun _ _ => ⟨rfl, rfl⟩
theorem IProg.keep {PX : PXt} {σ τ : Hp} (H : IProg PX σ) (hk : Keeps σ τ) (hr : τ.2.1 = σ.2.1) (hh : gI τ 66 35 = gI σ 66 35) : IProg PX τ := by
  obtain ⟨P, P', Q, Q', h1, h2, h3, h4, h5, h6, h7, h8⟩ := H
  have kI : ∀ c k, pcell c = true → gI τ c k = gI σ c k := fun c k hc => congrFun (hk c hc).1 k
  have kA : ∀ c, pcell c = true → gA τ c = gA σ c := fun c hc => (hk c hc).2
  have kR : ∀ c k, gR τ c k = gR σ c k := fun c k => by unfold gR; rw [hr]
  have hP : P = 21 ∨ P = 30 := by omega
  have hQ : Q = 87 ∨ Q = 95 := by omega
  refine ⟨P, P', Q, Q', h1, h2, (kR _ _).trans h3, (kR _ _).trans h4, (kR _ _).trans h5, (kR _ _).trans h6, ?_, ?_⟩
  · rw [kA 45 (by decide)]; exact h7
  · rw [hh]
    rcases hP with rfl | rfl <;> rcases hQ with rfl | rfl <;> {
      unfold PMat at h8 ⊢
      simp only [kI _ _ (show pcell 21 = true by decide), kI _ _ (show pcell 30 = true by decide), kI _ _ (show pcell 87 = true by decide), kI _ _ (show pcell 95 = true by decide), kA _ (show pcell 45 = true by decide), kA (21 + 1) (by decide), kA (21 + 2) (by decide), kA (21 + 3) (by decide), kA (21 + 4) (by decide), kA (21 + 5) (by decide), kA (21 + 6) (by decide), kA (21 + 7) (by decide), kA (21 + 8) (by decide), kA (30 + 1) (by decide), kA (30 + 2) (by decide), kA (30 + 3) (by decide), kA (30 + 4) (by decide), kA (30 + 5) (by decide), kA (30 + 6) (by decide), kA (30 + 7) (by decide), kA (30 + 8) (by decide), kA (87 + 1) (by decide), kA (87 + 2) (by decide), kA (87 + 3) (by decide), kA (87 + 4) (by decide), kA (87 + 5) (by decide), kA (87 + 6) (by decide), kA (87 + 7) (by decide), kA (95 + 1) (by decide), kA (95 + 2) (by decide), kA (95 + 3) (by decide), kA (95 + 4) (by decide), kA (95 + 5) (by decide), kA (95 + 6) (by decide), kA (95 + 7) (by decide)]
      exact h8 }
theorem ISubj.up {j : Nat} {σ : Hp} (H : ISubj j σ) : ISubj (j + 1) σ := let ⟨t, h, r⟩ := H; ⟨t, by omega, r⟩
theorem ITape.up {j : Nat} {σ : Hp} (H : ITape j σ) : ITape (j + 1) σ := let ⟨t, h, r⟩ := H; ⟨t, by omega, r⟩
theorem Inv.up {PX : PXt} {CK : CKt} {j : Nat} {σ : Hp} (H : Inv PX CK j σ) : Inv PX CK (j + 1) σ :=
  ⟨H.rf, H.tape.up, H.subj.up, H.flt, H.prog, H.proc, H.chk, H.out, H.own⟩
theorem pA_row (σ : Hp) (c k : Nat) (v : Int32) : pA σ c k v = rA σ c (fun j => if j = k then v else gA σ c j) := by
  rw [← pA_rA, rA_id]
theorem pA_pI (σ : Hp) (i k c j : Nat) (v w : Int32) : pA (pI σ i k v) c j w = pI (pA σ c j w) i k v := by obtain ⟨x, y⟩ := σ; rfl
theorem rA_pI (σ : Hp) (i k c : Nat) (v : Int32) (r : Nat → Int32) : rA (pI σ i k v) c r = pI (rA σ c r) i k v := by obtain ⟨x, y⟩ := σ; rfl
theorem gA_pI (σ : Hp) (i k c : Nat) (v : Int32) : gA (pI σ i k v) c = gA σ c := by obtain ⟨x, y⟩ := σ; rfl
theorem up2_up2 {α : Type} (f : Nat → Nat → α) (i k : Nat) (v w : α) : up2 (up2 f i k v) i k w = up2 f i k w := by
  funext a b
  unfold up2
  by_cases h : a = i
  · by_cases h2 : b = k
    · simp only [if_pos h, if_pos h2]
    · simp only [if_pos h, if_neg h2]
  · simp only [if_neg h]
theorem upr_upr {α : Type} (f : Nat → Nat → α) (c : Nat) (r s : Nat → α) : upr (upr f c r) c s = upr f c s := by
  funext a
  unfold upr
  by_cases h : a = c
  · simp only [if_pos h]
  · simp only [if_neg h]
theorem pI_pI (σ : Hp) (i k : Nat) (v w : Int32) : pI (pI σ i k v) i k w = pI σ i k w := by simp only [pI, up2_up2]
theorem rA_rA (σ : Hp) (c : Nat) (r s : Nat → Int32) : rA (rA σ c r) c s = rA σ c s := by simp only [rA, upr_upr]
theorem wW_eq (σ : Hp) (p : Nat) (v : Int32) : t_wW σ p v = rA σ 54 (w4 (gA σ 54) p v) := by
  unfold t_wW
  rw [pA_row σ, pA_rA, pA_rA, pA_rA]
  rfl
theorem wWM_eq (σ : Hp) (p : Nat) (v : Int32) : t_wWM σ p v = rA σ 112 (w4 (gA σ 112) p v) := by
  unfold t_wWM
  rw [pA_row σ, pA_rA, pA_rA, pA_rA, shr0]
  rfl
/-- the four bytes of v, the highest first, from t on -/
def b4 (f : Nat → Int32) (t : Nat) (v : Int32) : Nat → Int32 := fun k => if k = t + 3 then ((v >>> (0 &&& 31))).toInt8.toInt32.toInt8.toInt32 else if k = t + 2 then ((v >>> (8 &&& 31))).toInt8.toInt32.toInt8.toInt32 else if k = t + 1 then ((v >>> (16 &&& 31))).toInt8.toInt32.toInt8.toInt32 else if k = t then ((v >>> (24 &&& 31))).toInt8.toInt32.toInt8.toInt32 else f k
theorem b4_B {f : Nat → Int32} {p : Nat} {v : Int32} {k : Nat} (h : (f k).toInt8.toInt32 = f k) : (b4 f p v k).toInt8.toInt32 = b4 f p v k := by
  unfold b4
  by_cases h3 : k = p + 3
  · rw [if_pos h3]; exact nar8 _
  · rw [if_neg h3]
    by_cases h2 : k = p + 2
    · rw [if_pos h2]; exact nar8 _
    · rw [if_neg h2]
      by_cases h1 : k = p + 1
      · rw [if_pos h1]; exact nar8 _
      · rw [if_neg h1]
        by_cases h0 : k = p
        · rw [if_pos h0]; exact nar8 _
        · rw [if_neg h0]; exact h
theorem addNum_eq (σ : Hp) (v : Int32) (t : Nat) : t_addNum σ v t = pI (rA σ 1 (b4 (gA σ 1) t v)) 0 1 (nI (t + 4)) := by
  unfold t_addNum
  simp only [pA_pI, pI_pI]
  rw [pA_row σ, pA_rA, pA_rA, pA_rA]
  rfl
def f20 (f : Nat → Int32) (t : Nat) (a1 a2 a3 a4 a5 : Int32) : Nat → Int32 := b4 (b4 (b4 (b4 (b4 f t a1) (t + 4) a2) (t + 8) a3) (t + 12) a4) (t + 16) a5
theorem feed_eq (σ : Hp) (a1 a2 a3 a4 a5 : Int32) (t : Nat) (h : t ≤ 3980) : t_feed σ a1 a2 a3 a4 a5 t = pI (rA σ 1 (f20 (gA σ 1) t a1 a2 a3 a4 a5)) 0 1 (nI (t + 20)) := by
  rw [t_feed, if_pos h]
  simp only [addNum_eq, gA_pI, gA_rA, rA_pI, rA_rA, pI_pI, f20]
theorem feedM_eq (σ : Hp) (a1 a2 a3 a4 a5 : Int32) (t : Nat) (h : t + 20 ≤ 4000) : t_feedM σ a1 a2 a3 a4 a5 t = pI (rA σ 68 (f20 (gA σ 68) t a1 a2 a3 a4 a5)) 66 2 (nI (t + 20)) := by
  rw [t_feedM, if_pos h]
  rw [pA_row σ, pA_rA, pA_rA, pA_rA, pA_rA, pA_rA, pA_rA, pA_rA, pA_rA, pA_rA, pA_rA, pA_rA, pA_rA, pA_rA, pA_rA, pA_rA, pA_rA, pA_rA, pA_rA, pA_rA]
  rfl
theorem f20_congr {f g : Nat → Int32} {k : Nat} (h : f k = g k) (t : Nat) (a1 a2 a3 a4 a5 : Int32) : f20 f t a1 a2 a3 a4 a5 k = f20 g t a1 a2 a3 a4 a5 k := by
  simp only [f20, b4, h]
theorem f20_B {f : Nat → Int32} {k : Nat} (h : (f k).toInt8.toInt32 = f k) (t : Nat) (a1 a2 a3 a4 a5 : Int32) : (f20 f t a1 a2 a3 a4 a5 k).toInt8.toInt32 = f20 f t a1 a2 a3 a4 a5 k :=
  b4_B (b4_B (b4_B (b4_B (b4_B h))))

/-! ===== the state behind the constructors ===== -/
def Zr (σ : Hp) : Prop := ∀ c k, gA σ c k = 0
theorem Z_pI {σ : Hp} {i k : Nat} {v : Int32} (h : Zr σ) : Zr (pI σ i k v) := h
theorem Z_pR {σ : Hp} {i k : Nat} {v : Option Nat} (h : Zr σ) : Zr (pR σ i k v) := h
theorem Z_nO {σ : Hp} {i : Nat} (h : Zr σ) : Zr (nO σ i) := h
theorem Z_nA {σ : Hp} {i : Nat} (h : Zr σ) : Zr (nA σ i) := fun c k => by
  show upr σ.2.2.1 i (fun _ => 0) c k = 0
  unfold upr
  split
  · rfl
  · exact h c k
theorem Z_0 : Zr σ0 := fun _ _ => rfl
theorem Z_t_3 {σ : Hp} (h : Zr σ) : Zr (t_3 σ) := by
  unfold t_3
  exact (Z_pI (Z_pI (Z_pI (Z_pR (Z_nA (Z_pR (Z_nA (Z_pR (Z_nA (Z_pR (Z_nA (Z_pR (Z_nA (Z_pR (Z_nA (Z_pR (Z_nA (Z_pR (Z_nA (Z_pR (Z_nA (Z_pR (Z_nA (Z_pR (Z_nA h)))))))))))))))))))))))))
theorem Z_t_15 {σ : Hp} (h : Zr σ) : Zr (t_15 σ) := by
  unfold t_15
  exact (Z_pR (Z_nA (Z_pR (Z_pI (Z_pI (Z_pI h))))))
theorem Z_t_17 {σ : Hp} (h : Zr σ) : Zr (t_17 σ) := by
  unfold t_17
  exact (Z_pR (Z_nA (Z_pR (Z_pI (Z_pR (Z_nA (Z_pR (Z_nA h))))))))
theorem Z_t_21 {σ : Hp} (h : Zr σ) : Zr (t_21 σ) := by
  unfold t_21
  exact (Z_pI (Z_pI (Z_pI (Z_pI (Z_pI (Z_pR (Z_nA (Z_pR (Z_nA (Z_pR (Z_nA (Z_pR (Z_nA (Z_pR (Z_nA (Z_pR (Z_nA (Z_pR (Z_nA (Z_pR (Z_nA h)))))))))))))))))))))
theorem Z_t_30 {σ : Hp} (h : Zr σ) : Zr (t_30 σ) := by
  unfold t_30
  exact (Z_pI (Z_pI (Z_pI (Z_pI (Z_pI (Z_pR (Z_nA (Z_pR (Z_nA (Z_pR (Z_nA (Z_pR (Z_nA (Z_pR (Z_nA (Z_pR (Z_nA (Z_pR (Z_nA (Z_pR (Z_nA h)))))))))))))))))))))
theorem Z_t_39 {σ : Hp} (h : Zr σ) : Zr (t_39 σ) := by
  unfold t_39
  exact (Z_pR (Z_pR (Z_pI (Z_pR (Z_nA (Z_pR (Z_nA (Z_pR (Z_nA (Z_pR (Z_nA h)))))))))))
theorem Z_t_44 {σ : Hp} (h : Zr σ) : Zr (t_44 σ) := by
  unfold t_44
  exact (Z_pR (Z_pI (Z_pI (Z_pI (Z_pI (Z_pR (Z_nA (Z_pR (Z_nA (Z_pR (Z_nA (Z_pR (Z_nA (Z_pR (Z_nA h)))))))))))))))
theorem Z_t_52 {σ : Hp} (h : Zr σ) : Zr (t_52 σ) := by
  unfold t_52
  exact (Z_pI h)
theorem Z_t_55 {σ : Hp} (h : Zr σ) : Zr (t_55 σ) := by
  unfold t_55
  exact (Z_pR (Z_pI (Z_pI (Z_pI (Z_pI (Z_pI (Z_pI (Z_pI (Z_pI (Z_pI (Z_pI (Z_pI (Z_pI (Z_pI (Z_pI (Z_pI (Z_pI h)))))))))))))))))
theorem Z_t_50 {σ : Hp} (h : Zr σ) : Zr (t_50 σ) := by
  unfold t_50
  exact (Z_pI (Z_pI (Z_pR (Z_t_55 (Z_nO (Z_pI (Z_pI (Z_pI (Z_pR (Z_nA (Z_pI (Z_pR (Z_nA (Z_pR (Z_t_52 (Z_nO (Z_pR (Z_nA h))))))))))))))))))
theorem Z_t_60 {σ : Hp} (h : Zr σ) : Zr (t_60 σ) := by
  unfold t_60
  exact (Z_pR (Z_pI (Z_pI (Z_pI (Z_pI (Z_pI (Z_pI (Z_pI (Z_pI (Z_pI (Z_pI (Z_pI (Z_pI (Z_pI (Z_pI (Z_pI (Z_pI h)))))))))))))))))
theorem Z_t_56 {σ : Hp} (h : Zr σ) : Zr (t_56 σ) := by
  unfold t_56
  exact (Z_pI (Z_pI (Z_pI (Z_pI (Z_pI (Z_pI (Z_pR (Z_nA (Z_pR (Z_t_60 (Z_nA (Z_nO (Z_pR (Z_nA (Z_pR (Z_nA (Z_pR (Z_nA h))))))))))))))))))
theorem Z_t_63 {σ : Hp} (h : Zr σ) : Zr (t_63 σ) := by
  unfold t_63
  exact (Z_pI (Z_pI (Z_pI (Z_pR (Z_nA (Z_pR (Z_nA h)))))))
theorem Z_t_0 {σ : Hp} (h : Zr σ) : Zr (t_0 σ) := by
  unfold t_0
  exact (Z_pR (Z_t_63 (Z_nO (Z_pR (Z_t_56 (Z_nO (Z_pR (Z_t_50 (Z_nO (Z_pR (Z_t_44 (Z_nO (Z_pR (Z_t_39 (Z_nO (Z_pR (Z_t_30 (Z_nO (Z_pR (Z_t_21 (Z_nO (Z_pR (Z_t_17 (Z_nO (Z_pR (Z_t_15 (Z_nO (Z_pR (Z_t_3 (Z_nO (Z_pI (Z_pI (Z_pI (Z_pR (Z_nA (Z_pI (Z_pR (Z_nA h))))))))))))))))))))))))))))))))))))))
theorem Z_t_67 {σ : Hp} (h : Zr σ) : Zr (t_67 σ) := by
  unfold t_67
  exact h
theorem Z_t_87 {σ : Hp} (h : Zr σ) : Zr (t_87 σ) := by
  unfold t_87
  exact (Z_pR (Z_nA (Z_pR (Z_nA (Z_pR (Z_nA (Z_pR (Z_nA (Z_pR (Z_nA (Z_pR (Z_nA (Z_pR (Z_nA h))))))))))))))
theorem Z_t_95 {σ : Hp} (h : Zr σ) : Zr (t_95 σ) := by
  unfold t_95
  exact (Z_pR (Z_nA (Z_pR (Z_nA (Z_pR (Z_nA (Z_pR (Z_nA (Z_pR (Z_nA (Z_pR (Z_nA (Z_pR (Z_nA h))))))))))))))
theorem Z_t_66 {σ : Hp} (h : Zr σ) : Zr (t_66 σ) := by
  unfold t_66
  exact (Z_pI (Z_pR (Z_nA (Z_pR (Z_nA (Z_pR (Z_nA (Z_pR (Z_nA (Z_pR (Z_nA (Z_pR (Z_nA (Z_pR (Z_nA (Z_pR (Z_nA (Z_pI (Z_pR (Z_nA (Z_pR (Z_nA (Z_pR (Z_nA (Z_pR (Z_nA (Z_pR (Z_nA (Z_pR (Z_nA (Z_pR (Z_nA (Z_pR (Z_nA (Z_pR (Z_nA (Z_pR (Z_nA (Z_pR (Z_nA (Z_pR (Z_t_95 (Z_nO (Z_pR (Z_t_87 (Z_nO (Z_pR (Z_nA (Z_pR (Z_nA (Z_pR (Z_nA (Z_pR (Z_nA (Z_pR (Z_nA (Z_pR (Z_nA (Z_pR (Z_nA (Z_pR (Z_nA (Z_pR (Z_nA (Z_pR (Z_nA (Z_pR (Z_nA (Z_pR (Z_nA (Z_pR (Z_nA (Z_pR (Z_nA (Z_pR (Z_nA (Z_pR (Z_nA (Z_pR (Z_nA (Z_pI (Z_pR (Z_nA (Z_pR (Z_nA (Z_pR (Z_t_67 (Z_nO h))))))))))))))))))))))))))))))))))))))))))))))))))))))))))))))))))))))))))))))))))))))))
theorem Z_F : Zr σF := Z_t_66 (Z_nO (Z_t_0 (Z_nO Z_0)))
theorem Rf_F : Rf σF := fun o k j m => by
  have h := List.all_eq_true.mp (show rtL.all (fun e => decide (gR σF e.1 e.2.1 = some e.2.2)) = true by decide +kernel) (o, k, j) m
  exact of_decide_eq_true h
theorem inv_F (PX : PXt) (CK : CKt) : Inv PX CK 0 σF := by
  have z := Z_F
  refine ⟨Rf_F, ⟨0, by omega, by decide +kernel, by decide +kernel, fun k _ => by rw [z, z], fun k _ => by rw [z]; rfl⟩, ⟨0, by omega, by decide +kernel, by decide +kernel, fun k _ => by rw [z, z], fun k _ => by rw [z]; rfl⟩, Or.inl ⟨by decide +kernel, by decide +kernel, by decide +kernel⟩, ?_, ?_, Or.inl (by decide +kernel), ⟨by decide +kernel, Or.inl ⟨by decide +kernel, by decide +kernel⟩⟩, ⟨⟨0, by omega, by decide +kernel⟩, rfl⟩⟩
  · exact ⟨21, 30, 95, 87, Or.inl ⟨rfl, rfl⟩, Or.inr ⟨rfl, rfl⟩, by decide +kernel, by decide +kernel, by decide +kernel, by decide +kernel, fun k _ => by rw [z]; rfl, Or.inl ⟨by decide +kernel, by decide +kernel, by decide +kernel, by decide +kernel, by decide +kernel, by decide +kernel, by decide +kernel, by decide +kernel, by decide +kernel, by decide +kernel⟩⟩
  · exact ⟨⟨0, by omega, by decide +kernel, by decide +kernel, fun k _ => by rw [z, z]⟩, fun k _ => by rw [z]; rfl, fun k _ => by rw [z, z], by decide +kernel, by decide +kernel, by decide +kernel, by decide +kernel, fun k _ => by rw [z, z], fun k _ => by rw [z]; rfl⟩

/-! ===== one call on a new object ===== -/
def isRet (r : Int32) (x : Option (Oc × Hp)) : Bool := match x with
  | some (.inl (some (.int v)), _) => v == r
  | _ => false
def isThr (j : Nat) (x : Option (Oc × Hp)) : Bool := match x with
  | some (.inr i, _) => i == j
  | _ => false
def outH (x : Option (Oc × Hp)) : Hp := match x with
  | some q => q.2
  | none => σ0
theorem isRet_of {r : Int32} {x : Option (Oc × Hp)} (h : isRet r x = true) : x = some (.inl (some (.int r)), outH x) := by
  unfold isRet at h
  split at h
  · rename_i v τ
    rw [eq_of_beq h]
    rfl
  · cases h
theorem isThr_of {j : Nat} {x : Option (Oc × Hp)} (h : isThr j x = true) : x = some (.inr j, outH x) := by
  unfold isThr at h
  split at h
  · rename_i v τ
    rw [eq_of_beq h]
    rfl
  · cases h
/-- the class's grammar on a new object -/
def eG : Option (Oc × Hp) := ex mt 2000 900 (mt 40) 0 (lvE [.ref 0] (mt 40).2.2.2.1) [] σF
theorem eG_ok : isRet (-1) eG = true := by decide +kernel
def eT : Option (Oc × Hp) := ex mt 2000 899 (mt 212) 0 (lvE [.ref 66] (mt 212).2.2.2.1) [] (pI (pI (pI (outH eG) 66 9 1) 66 7 0) 66 8 (-1))
theorem eT_ok : isThr 67 eT = true := by decide +kernel
theorem wGx : Cx yX11_grammar cX11_grammar 4 (some .int) 900 122 122 [.ref 0] σF (fun o τ => o = .inl (some (.int (-1))) ∧ τ = outH eG) := Cx_ex 40 2000 900 (av := [.ref 0]) (by decide +kernel) (isRet_of eG_ok)
theorem wTx : CxT yX14_text cX14_text 1 none 899 [.ref 66] (pI (pI (pI (outH eG) 66 9 1) 66 7 0) 66 8 (-1)) (fun o τ => o = .inr 67 ∧ τ = outH eT) := CxT_ex 212 2000 899 (av := [.ref 66]) (by decide +kernel) (isThr_of eT_ok)
theorem io_grammar : iok yX14_grammar := ⟨gwt_8 164 rfl rfl, gwt_8 165 rfl rfl⟩
/-- a call of the reference's grammar, its contract given -/
theorem law_grammar {d : Nat} {τ1 τ2 : Hp} {r : Int32} (hd900 : d + 1 ≤ 1000) (h : CxW yX14_grammar cX14_grammar 4 (some .int) d [.ref 66] τ1 (fun o τ => o = .inl (some (.int r)) ∧ τ = τ2)) (b L : Nat) (xs : Nat → Int32) (pc : Nat) (lv st : List Value) (hd : decode code pc = .ok (.invokevirtual 27, 3)) (hw : wsum st ≤ 8) (k : Wx (SL b L xs) 122 (pc + 3) lv (.int r :: st) τ2) : Wx (SL b L xs) 122 pc lv (.ref 66 :: st) τ1 :=
  Wx_callVW (S := SL b L xs) 66 14 [] 0 it_X14 (gwt_8 166 rfl rfl) ⟨by decide, by decide, by decide +kernel⟩ (by decide) (gwt_8 163 rfl rfl) io_grammar rfl rfl (by decide) hd h hd900 rfl hw rfl (fun w t q => by obtain ⟨q0, rfl⟩ := q; cases q0; exact k) (fun _ _ q => by cases q.1)
theorem ob2F : Ob2 (fun _ => True) σF := by
  refine ⟨-1, outH eG, _, wGx, fun b L xs pc lv st hd hw k => law_grammar (by decide) (w_grammarX 899 (outH eG) (outH eT) wTx) b L xs pc lv st hd hw k, trivial⟩
abbrev PX0 : PXt := fun _ _ _ _ _ _ _ _ _ => True
abbrev CK0 : CKt := fun _ _ _ _ => True
theorem ob11F : Ob11 (fun _ => True) σF := by
  intro a1 a2
  have H := inv_F PX0 CK0
  have hz : gI σF 66 35 = 0 ∧ gI σF 21 8 = 0 ∧ gI σF 21 9 = 0 ∧ gI σF 21 10 = 0 ∧ gI σF 21 11 = 0 ∧ gI σF 21 12 = 0 ∧ gI σF 95 0 = 0 ∧ gI σF 95 2 = 0 ∧ gI σF 95 3 = 0 ∧ gI σF 95 4 = 0 := ⟨by decide +kernel, by decide +kernel, by decide +kernel, by decide +kernel, by decide +kernel, by decide +kernel, by decide +kernel, by decide +kernel, by decide +kernel, by decide +kernel⟩
  have r1 : gR σF 0 9 = some 21 := by decide +kernel
  have r3 : gR σF 66 34 = some 95 := by decide +kernel
  obtain ⟨c1, _⟩ := arm_no_21_95 (by decide) H r1 r3 a1 a2 (Or.inl hz) 896
  obtain ⟨_, c2⟩ := arm_no_21_95 (by decide) H r1 r3 a1 a2 (Or.inl hz) 898
  exact ⟨-1, σF, σF, Cx_to (w_match0 899 σF a1 a2 c1) rfl rfl, Cx_to (w_matchM0 899 σF a1 a2 c2) rfl rfl, trivial⟩
theorem ob15F : Ob15 (fun _ => True) σF := by
  intro a1
  have em : gI (t_check0 σF a1) 66 50 = 0 := by
    unfold t_check0
    have e0 : gI σF 66 50 = 0 := by decide +kernel
    have e1 : gI (t_look0 σF) 66 50 = 0 := e0
    split
    · exact e1
    · split
      · exact e1
      · exact e0
  have hR : Rf (t_check0 σF a1) := by
    unfold t_check0
    split
    · exact Rf_look0 Rf_F
    · split
      · exact Rf_look0 Rf_F
      · exact Rf_F
  refine ⟨r_check0 σF a1, t_check0 σF a1, _, w_check0 896 σF a1 Rf_F (by decide +kernel) (by decide +kernel), Cx_to (w_checkM0 898 (t_check0 σF a1) a1 hR em) ?_ rfl, trivial⟩
  unfold r_checkM0 r_check0
  rfl
def eS : Option (Oc × Hp) := ex mt 2000 898 (mt 346) 0 (lvE [.ref 50] (mt 346).2.2.2.1) [] σF
theorem eS_ok : isRet 0 eS = true := by decide +kernel
theorem wSx : Cx yX7_tryStep cX7_tryStep 3 (some .boolean) 898 122 122 [.ref 50] σF (fun o τ => o = .inl (some (.int 0)) ∧ τ = outH eS) := Cx_ex 346 2000 898 (av := [.ref 50]) (by decide +kernel) (isRet_of eS_ok)
def eM1 : Option (Oc × Hp) := ex mt 2000 899 (mt 202) 0 (lvE [.ref 66] (mt 202).2.2.2.1) [] σF
theorem eM1_ok : isRet 0 eM1 = true := by decide +kernel
def eM2 : Option (Oc × Hp) := ex mt 2000 899 (mt 202) 0 (lvE [.ref 66] (mt 202).2.2.2.1) [] (outH eS)
theorem eM2_ok : isRet 0 eM2 = true := by decide +kernel
theorem wM1 : Cx yX14_steps cX14_steps 3 (some .boolean) 899 122 122 [.ref 66] σF (fun o τ => o = .inl (some (.int 0)) ∧ τ = outH eM1) := Cx_ex 202 2000 899 (av := [.ref 66]) (by decide +kernel) (isRet_of eM1_ok)
theorem wM2 : Cx yX14_steps cX14_steps 3 (some .boolean) 899 122 122 [.ref 66] (outH eS) (fun o τ => o = .inl (some (.int 0)) ∧ τ = outH eM2) := Cx_ex 202 2000 899 (av := [.ref 66]) (by decide +kernel) (isRet_of eM2_ok)
theorem ob17F : Ob17 (fun _ => True) σF := by
  intro a1
  have e6 : gI σF 50 6 = 0 := by decide +kernel
  have c1 := w_run0 898 σF a1 (outH eS) Rf_F e6 wSx
  have hr : ∀ (σ τ : Hp), r_run0 σF a1 (outH eS) = r_runM0 σ a1 τ := by
    intro σ τ
    unfold r_run0 r_runM0 r_makeSteps0
    rfl
  have ht : t_run0 σF a1 (outH eS) = σF ∨ t_run0 σF a1 (outH eS) = outH eS := by
    unfold t_run0 t_makeSteps0
    by_cases h1 : a1 < 0
    · exact Or.inl (if_pos h1)
    · by_cases h2 : a1 ≤ 100000
      · by_cases h3 : a1 ≤ 0
        · exact Or.inl (by rw [if_neg h1, if_pos h2, if_pos h3])
        · exact Or.inr (by rw [if_neg h1, if_pos h2, if_neg h3])
      · exact Or.inl (by rw [if_neg h1, if_neg h2])
  rcases ht with ht | ht
  · rw [ht] at c1
    exact ⟨_, σF, _, c1, Cx_to (w_runM0 899 σF a1 (outH eM1) wM1) (hr _ _).symm rfl, trivial⟩
  · rw [ht] at c1
    exact ⟨_, outH eS, _, c1, Cx_to (w_runM0 899 (outH eS) a1 (outH eM2) wM2) (hr _ _).symm rfl, trivial⟩
/-- small obligations on a new object -/
theorem Ob_T : Obs (fun τ => τ = σF) (fun _ => True) := by
  intro σ hσ
  subst hσ
  have H := inv_F PX0 CK0
  have hj : 0 < 64 := by decide
  exact ⟨(fun a1 a2 a3 a4 a5 => (let ⟨r, τ1, τ2, h1, h2, _⟩ := ob0 hj H a1 a2 a3 a4 a5; ⟨r, τ1, τ2, h1, h2, trivial⟩)), (fun a1 => (let ⟨r, τ1, τ2, h1, h2, _⟩ := ob1 hj H a1; ⟨r, τ1, τ2, h1, h2, trivial⟩)), ob2F, (fun a1 => (let ⟨r, τ1, τ2, h1, h2, _⟩ := ob3 hj H a1; ⟨r, τ1, τ2, h1, h2, trivial⟩)), (fun a1 => (let ⟨r, τ1, τ2, h1, h2, _⟩ := ob4 hj H a1; ⟨r, τ1, τ2, h1, h2, trivial⟩)), (fun a1 a2 => (let ⟨r, τ1, τ2, h1, h2, _⟩ := ob5 hj H a1 a2; ⟨r, τ1, τ2, h1, h2, trivial⟩)), (fun a1 a2 => (let ⟨r, τ1, τ2, h1, h2, _⟩ := ob6 hj H a1 a2; ⟨r, τ1, τ2, h1, h2, trivial⟩)), (fun a1 a2 => (let ⟨r, τ1, τ2, h1, h2, _⟩ := ob7 hj H a1 a2; ⟨r, τ1, τ2, h1, h2, trivial⟩)), (fun a1 => (let ⟨r, τ1, τ2, h1, h2, _⟩ := ob8 hj H a1; ⟨r, τ1, τ2, h1, h2, trivial⟩)), ((let ⟨r, τ1, τ2, h1, h2, _⟩ := ob9 hj H; ⟨r, τ1, τ2, h1, h2, trivial⟩)), (fun a1 a2 => (let ⟨r, τ1, τ2, h1, h2, _⟩ := ob10 hj H a1 a2; ⟨r, τ1, τ2, h1, h2, trivial⟩)), ob11F, ((let ⟨r, τ1, τ2, h1, h2, _⟩ := ob12 hj H; ⟨r, τ1, τ2, h1, h2, trivial⟩)), (fun a1 a2 => (let ⟨r, τ1, τ2, h1, h2, _⟩ := ob13 hj H a1 a2; ⟨r, τ1, τ2, h1, h2, trivial⟩)), ((let ⟨r, τ1, τ2, h1, h2, _⟩ := ob14 hj H; ⟨r, τ1, τ2, h1, h2, trivial⟩)), ob15F, (fun a1 => (let ⟨r, τ1, τ2, h1, h2, _⟩ := ob16 hj H a1; ⟨r, τ1, τ2, h1, h2, trivial⟩)), ob17F, (fun a1 => (let ⟨r, τ1, τ2, h1, h2, _⟩ := ob18 hj H a1; ⟨r, τ1, τ2, h1, h2, trivial⟩)), (fun a1 a2 => (let ⟨r, τ1, τ2, h1, h2, _⟩ := ob19 hj H a1 a2; ⟨r, τ1, τ2, h1, h2, trivial⟩)), (fun a1 a2 => (let ⟨r, τ1, τ2, h1, h2, _⟩ := ob20 hj H a1 a2; ⟨r, τ1, τ2, h1, h2, trivial⟩)), (fun a1 => (let ⟨r, τ1, τ2, h1, h2, _⟩ := ob21 hj H a1; ⟨r, τ1, τ2, h1, h2, trivial⟩)), trivial⟩

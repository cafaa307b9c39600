set_option maxHeartbeats 4000000 in
theorem opL_sound {S : Sx} {n pc : Nat} {lv lv' st st' : List Value} {σ : Hp} {i : Instr} (hd : decode S.1.1 pc = .ok (i, ilen i)) (hlen : lv.length = S.1.2.2.2.1) (h : opL i lv st = some (lv', st')) (k : Wx S n (pc + ilen i) lv' st' σ) : Wx S n pc lv st σ := by
  intro p l e R s m args below meth c G H locs ls C hn hH hl
  have K := fun ls' hl' => k p l e R s m args below meth c G H locs ls' C hn hH hl'
  cases i
  case iload_n q =>
    simp only [opL, locOp] at h
    split at h
    · rename_i x hx
      cases h
      exact lv_iload_n C.1 C.2.1 hd rfl (lvx_at hl hx rfl) (K ls hl)
    · cases h
  case iload q =>
    simp only [opL, locOp] at h
    split at h
    · rename_i x hx
      cases h
      exact lv_iload C.1 C.2.1 hd (lvx_at hl hx rfl) (K ls hl)
    · cases h
  case lload_n q =>
    simp only [opL, locOp] at h
    split at h
    · rename_i x hx
      cases h
      exact lv_lload_n C.1 C.2.1 hd rfl (lvx_at hl hx rfl) (K ls hl)
    · cases h
  case lload q =>
    simp only [opL, locOp] at h
    split at h
    · rename_i x hx
      cases h
      exact lv_lload C.1 C.2.1 hd (lvx_at hl hx rfl) (K ls hl)
    · cases h
  case aload_n q =>
    simp only [opL, locOp] at h
    split at h
    · rename_i x hx
      cases h
      exact lv_aload_n C.1 C.2.1 hd rfl (lvx_at hl hx rfl) (K ls hl)
    · cases h
  case istore_n q =>
    simp only [opL, locOp] at h
    split at h
    · split at h
      · rename_i x t hq
        cases h
        exact lv_istore_n C.1 C.2.1 hd rfl (lvx_has hl) (by omega) rfl (fun ls' hl' => K ls' (lvx_st1 (w := .int x) hl'))
      · cases h
    · cases h
  case istore q =>
    simp only [opL, locOp] at h
    split at h
    · split at h
      · rename_i x t hq
        cases h
        exact lv_istore C.1 C.2.1 hd (lvx_has hl) (by omega) rfl (fun ls' hl' => K ls' (lvx_st1 (w := .int x) hl'))
      · cases h
    · cases h
  case lstore_n q =>
    simp only [opL, locOp] at h
    split at h
    · split at h
      · rename_i x t hq
        cases h
        exact lv_lstore_n C.1 C.2.1 hd rfl (lvx_has hl) (by omega) rfl (fun ls' hl' => K ls' (lvx_st2 (w := .long x) hl'))
      · cases h
    · cases h
  case lstore q =>
    simp only [opL, locOp] at h
    split at h
    · split at h
      · rename_i x t hq
        cases h
        exact lv_lstore C.1 C.2.1 hd (lvx_has hl) (by omega) rfl (fun ls' hl' => K ls' (lvx_st2 (w := .long x) hl'))
      · cases h
    · cases h
  case astore_n q =>
    simp only [opL, locOp] at h
    split at h
    · split at h
      · rename_i x t hq
        cases h
        exact lv_astore_n C.1 C.2.1 hd rfl (lvx_has hl) (by omega) rfl (fun ls' hl' => K ls' (lvx_st1 (w := .ref x) hl'))
      · cases h
    · cases h
  case iinc q y =>
    simp only [opL, locOp] at h
    split at h
    · rename_i x hx
      cases h
      obtain ⟨z, hz⟩ := lvx_ix hl hx rfl
      have hlt := (List.getElem?_eq_some_iff.mp hx).1
      exact lv_iinc C.1 C.2.1 hd (lvx_has hl) hz rfl (by omega) rfl (fun ls' hl' => K ls' (lvx_st1 (w := .int (x + Int32.ofInt y)) hl'))
    · cases h
  all_goals cases h
theorem opL_len {lv lv' st st' : List Value} {i : Instr} (h : opL i lv st = some (lv', st')) : lv'.length = lv.length := by
  unfold opL at h
  split at h
  all_goals (split at h)
  all_goals first
    | (cases h; done)
    | (cases h; first | rfl | exact st1_len _ _ _)
    | (split at h <;> first | (cases h; done) | (cases h; first | exact st1_len _ _ _ | (unfold st2; rw [List.length_set]; exact st1_len _ _ _)))
/-- branches: by the condition -/
def cnd (c : ClassFile.Cond) (x y : Int32) : Bool := match c with
  | .eq => decide (x = y)
  | .ne => !decide (x = y)
  | .lt => decide (x < y)
  | .ge => decide (y ≤ x)
  | .gt => decide (y < x)
  | .le => decide (x ≤ y)
def inb (j : Int32) (n : Nat) : Bool := !decide (j < 0) && decide (j.toNatClampNeg < n)
theorem inb_in {j : Int32} {n : Nat} (h : inb j n = true) : vp_in j n := by
  simp only [inb, Bool.and_eq_true, Bool.not_eq_true', decide_eq_false_iff_not, decide_eq_true_eq] at h
  intro q
  rcases q with q | q
  · exact h.1 q
  · omega
/-- the heap: fields (kind t: 0 int, 1 boolean, 2 reference) and rows -/
def opH (i : Instr) (a b : Nat) (t : Int) (st : List Value) (σ : Hp) : Option (List Value × Hp) := match i with
  | .getfield _ => match st with
    | .ref o :: r => cond (decide (o < 122) && decide (sh o = .inl a)) (match t with
      | 2 => match gR σ o b with
        | some j => some (.ref j :: r, σ)
        | none => none
      | _ => some (.int (gI σ o b) :: r, σ)) none
    | _ => none
  | .putfield _ => match st with
    | .int x :: .ref o :: r => cond (decide (o < 122) && decide (sh o = .inl a)) (match t with
      | 0 => some (r, pI σ o b x)
      | 1 => if x = 0 ∨ x = 1 then some (r, pI σ o b x) else none
      | _ => none) none
    | .ref j :: .ref o :: r => cond (decide (o < 122) && decide (sh o = .inl a)) (match t with
      | 2 => some (r, pR σ o b (some j))
      | _ => none) none
    | _ => none
  | .iaload => match st with
    | .int j :: .ref o :: r => match sh o with
      | .inr (1, len) => cond (decide (o < 122) && inb j len) (some (.int (gA σ o j.toNatClampNeg) :: r, σ)) none
      | _ => none
    | _ => none
  | .baload => match st with
    | .int j :: .ref o :: r => match sh o with
      | .inr (0, len) => cond (decide (o < 122) && inb j len) (some (.int (gA σ o j.toNatClampNeg) :: r, σ)) none
      | .inr (3, len) => cond (decide (o < 122) && inb j len) (some (.int (gA σ o j.toNatClampNeg) :: r, σ)) none
      | _ => none
    | _ => none
  | .laload => match st with
    | .int j :: .ref o :: r => match sh o with
      | .inr (2, len) => cond (decide (o < 122) && inb j len) (some (.long (gL σ o j.toNatClampNeg) :: r, σ)) none
      | _ => none
    | _ => none
  | .iastore => match st with
    | .int x :: .int j :: .ref o :: r => match sh o with
      | .inr (1, len) => cond (decide (o < 122) && inb j len) (some (r, pA σ o j.toNatClampNeg x)) none
      | _ => none
    | _ => none
  | .bastore => match st with
    | .int x :: .int j :: .ref o :: r => match sh o with
      | .inr (0, len) => cond (decide (o < 122) && inb j len) (some (r, pA σ o j.toNatClampNeg x.toInt8.toInt32)) none
      | .inr (3, len) => cond (decide (o < 122) && inb j len) (if x = 0 ∨ x = 1 then some (r, pA σ o j.toNatClampNeg x) else none) none
      | _ => none
    | _ => none
  | .lastore => match st with
    | .long x :: .int j :: .ref o :: r => match sh o with
      | .inr (2, len) => cond (decide (o < 122) && inb j len) (some (r, pL σ o j.toNatClampNeg x)) none
      | _ => none
    | _ => none
  | .arraylength => match st with
    | .ref o :: r => match sh o with
      | .inr (ty, len) => cond (decide (o < 122) && decide (ty < 4)) (some (.int (Int32.ofNat len) :: r, σ)) none
      | _ => none
    | _ => none
  | _ => none
/-- what a field asks of the tables -/
def fdok (own : String) (i : Instr) (a b : Nat) (t : Int) : Prop := match i with
  | .getfield x => fok own x a b ∧ ((t = 2 ∧ isI (cl_ty a b) = false) ∨ (t ≠ 2 ∧ isI (cl_ty a b) = true))
  | .putfield x => fok own x a b ∧ clf a b = false ∧ ((t = 0 ∧ cl_ty a b = .int) ∨ (t = 1 ∧ cl_ty a b = .boolean) ∨ (t = 2 ∧ isR (cl_ty a b) = true))
  | _ => True
theorem cond_some {α : Type} {b : Bool} {x : Option α} {y : α} (h : cond b x none = some y) : b = true ∧ x = some y := by
  cases b
  · cases h
  · exact ⟨rfl, h⟩
set_option maxHeartbeats 8000000 in
theorem opH_sound {S : Sx} {pc : Nat} {lv st st' : List Value} {σ τ : Hp} {i : Instr} {a b : Nat} {t : Int} (hd : decode S.1.1 pc = .ok (i, ilen i)) (hf : fdok S.1.2.1 i a b t) (h : opH i a b t st σ = some (st', τ)) (k : Wx S 122 (pc + ilen i) lv st' τ) : Wx S 122 pc lv st σ := by
  cases i
  case getfield x =>
    simp only [opH] at h
    split at h
    · obtain ⟨hc, h⟩ := cond_some h
      simp only [Bool.and_eq_true, decide_eq_true_eq] at hc
      obtain ⟨hf1, hf2⟩ := hf
      split at h
      · split at h
        · rename_i hr
          cases h
          rcases hf2 with ⟨-, hf2⟩ | ⟨hf2, -⟩
          · exact Wx_getR a b _ hd hf1 hc.2 hc.1 hf2 hr k
          · exact absurd rfl hf2
        · cases h
      · rename_i ht
        cases h
        rcases hf2 with ⟨hf2, -⟩ | ⟨-, hf2⟩
        · exact absurd hf2 ht
        · exact Wx_getI a b hd hf1 hc.2 hc.1 hf2 k
    · cases h
  case putfield x =>
    simp only [opH] at h
    obtain ⟨hf1, hf2, hf3⟩ := hf
    split at h
    · obtain ⟨hc, h⟩ := cond_some h
      simp only [Bool.and_eq_true, decide_eq_true_eq] at hc
      split at h
      · cases h
        rcases hf3 with ⟨-, hf3⟩ | ⟨hf3, -⟩ | ⟨hf3, -⟩
        · exact Wx_putI a b hd hf1 hc.2 hc.1 hf3 hf2 k
        · exact absurd hf3 (by decide)
        · exact absurd hf3 (by decide)
      · split at h
        · rename_i hx
          cases h
          rcases hf3 with ⟨hf3, -⟩ | ⟨-, hf3⟩ | ⟨hf3, -⟩
          · exact absurd hf3 (by decide)
          · exact Wx_putZ a b hd hf1 hc.2 hc.1 hf3 hf2 hx k
          · exact absurd hf3 (by decide)
        · cases h
      · cases h
    · obtain ⟨hc, h⟩ := cond_some h
      simp only [Bool.and_eq_true, decide_eq_true_eq] at hc
      split at h
      · cases h
        rcases hf3 with ⟨hf3, -⟩ | ⟨hf3, -⟩ | ⟨-, hf3⟩
        · exact absurd hf3 (by decide)
        · exact absurd hf3 (by decide)
        · exact Wx_putR a b hd hf1 hc.2 hc.1 hf3 hf2 k
      · cases h
    · cases h
  case iaload =>
    simp only [opH] at h
    split at h
    · split at h
      · rename_i hs
        obtain ⟨hc, h⟩ := cond_some h
        simp only [Bool.and_eq_true, decide_eq_true_eq] at hc
        cases h
        exact Wx_iaload _ hd hs hc.1 (inb_in hc.2) k
      · cases h
    · cases h
  case baload =>
    simp only [opH] at h
    split at h
    · split at h
      · rename_i hs
        obtain ⟨hc, h⟩ := cond_some h
        simp only [Bool.and_eq_true, decide_eq_true_eq] at hc
        cases h
        exact Wx_baload _ hd hs hc.1 (inb_in hc.2) k
      · rename_i hs
        obtain ⟨hc, h⟩ := cond_some h
        simp only [Bool.and_eq_true, decide_eq_true_eq] at hc
        cases h
        exact Wx_zaload _ hd hs hc.1 (inb_in hc.2) k
      · cases h
    · cases h
  case laload =>
    simp only [opH] at h
    split at h
    · split at h
      · rename_i hs
        obtain ⟨hc, h⟩ := cond_some h
        simp only [Bool.and_eq_true, decide_eq_true_eq] at hc
        cases h
        exact Wx_laload _ hd hs hc.1 (inb_in hc.2) k
      · cases h
    · cases h
  case iastore =>
    simp only [opH] at h
    split at h
    · split at h
      · rename_i hs
        obtain ⟨hc, h⟩ := cond_some h
        simp only [Bool.and_eq_true, decide_eq_true_eq] at hc
        cases h
        exact Wx_iastore _ hd hs hc.1 (inb_in hc.2) k
      · cases h
    · cases h
  case bastore =>
    simp only [opH] at h
    split at h
    · split at h
      · rename_i hs
        obtain ⟨hc, h⟩ := cond_some h
        simp only [Bool.and_eq_true, decide_eq_true_eq] at hc
        cases h
        exact Wx_bastore _ hd hs hc.1 (inb_in hc.2) k
      · rename_i hs
        obtain ⟨hc, h⟩ := cond_some h
        simp only [Bool.and_eq_true, decide_eq_true_eq] at hc
        split at h
        · rename_i hx
          cases h
          exact Wx_zastore _ hd hs hc.1 (inb_in hc.2) hx k
        · cases h
      · cases h
    · cases h
  case lastore =>
    simp only [opH] at h
    split at h
    · split at h
      · rename_i hs
        obtain ⟨hc, h⟩ := cond_some h
        simp only [Bool.and_eq_true, decide_eq_true_eq] at hc
        cases h
        exact Wx_lastore _ hd hs hc.1 (inb_in hc.2) k
      · cases h
    · cases h
  case arraylength =>
    simp only [opH] at h
    split at h
    · split at h
      · rename_i hs
        obtain ⟨hc, h⟩ := cond_some h
        simp only [Bool.and_eq_true, decide_eq_true_eq] at hc
        cases h
        exact Wx_alen _ hd hs hc.2 hc.1 rfl k
      · cases h
    · cases h
  all_goals cases h

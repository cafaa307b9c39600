/-! ===== each method's table is what its code has ===== -/
def isSw (i : Instr) : Bool := match i with
  | .tableswitch .. => true
  | .lookupswitch .. => true
  | _ => false
def chkL (w : Nat) (q : Nat × Ri) : Bool := match q.2.1 with
  | .ldc x => (KTb w).elem (x, q.2.2.2.2.2)
  | .ldc_w x => (KTb w).elem (x, q.2.2.2.2.2)
  | .ldc2_w x => (KLb w).elem (x, q.2.2.2.2.2)
  | .getfield x => (FTb w).elem (x, q.2.2.2.1, q.2.2.2.2.1) && ((decide (q.2.2.2.2.2 = 2) && !isI (cl_ty q.2.2.2.1 q.2.2.2.2.1)) || (!decide (q.2.2.2.2.2 = 2) && isI (cl_ty q.2.2.2.1 q.2.2.2.2.1)))
  | .putfield x => (FTb w).elem (x, q.2.2.2.1, q.2.2.2.2.1) && !clf q.2.2.2.1 q.2.2.2.2.1 && ((decide (q.2.2.2.2.2 = 0) && decide (cl_ty q.2.2.2.1 q.2.2.2.2.1 = .int)) || (decide (q.2.2.2.2.2 = 1) && decide (cl_ty q.2.2.2.1 q.2.2.2.2.1 = .boolean)) || (decide (q.2.2.2.2.2 = 2) && isR (cl_ty q.2.2.2.1 q.2.2.2.2.1)))
  | .goto o => decide ((q.1 : Int) + o = q.2.2.2.1)
  | .ifCond _ o => decide ((q.1 : Int) + o = q.2.2.2.1)
  | .if_icmp _ o => decide ((q.1 : Int) + o = q.2.2.2.1)
  | .invokevirtual x => (LTb w).elem (x, q.2.2.2.1) && (VTb (q.2.2.2.1 / 40)).elem (q.2.2.2.1, q.2.2.2.2.1) && decide (q.2.2.2.2.2 < 7)
  | .invokestatic x => cond (decide (q.2.2.2.2.2 < 7)) ((LTb w).elem (x, q.2.2.2.1) && (STb 0).elem (q.2.2.2.1, q.2.2.2.2.1)) ((YTb w).elem (x, q.2.2.2.2.2))
  | _ => true
def chk (M : Mi) : Bool := M.2.2.2.2.2.all (fun q => decide (decode M.2.1 q.1 = .ok (q.2.1, q.2.2.1)) && (decide (q.2.2.1 = ilen q.2.1) || isSw q.2.1) && chkL M.2.2.1 q)
theorem isSw_or {i : Instr} (h : isSw i = true) : (∃ d l h o, i = .tableswitch d l h o) ∨ ∃ d p, i = .lookupswitch d p := by
  cases i
  case tableswitch d l u o => exact Or.inl ⟨d, l, u, o, rfl⟩
  case lookupswitch d p => exact Or.inr ⟨d, p, rfl⟩
  all_goals cases h
theorem elem_mem {α : Type} [BEq α] [LawfulBEq α] {l : List α} {a : α} (h : l.elem a = true) : a ∈ l := List.elem_iff.mp h
set_option maxHeartbeats 4000000 in
theorem chk_ok {M : Mi} (h1 : plainName M.1.cls = true) (h2 : M.1.name ≠ "<init>") (hw : M.1.cls = rx M.2.2.1) (h : chk M = true) : MOK mt M := by
  refine ⟨h1, h2, fun q hq => ?_⟩
  have h3 := List.all_eq_true.mp h q hq
  simp only [Bool.and_eq_true, decide_eq_true_eq, Bool.or_eq_true] at h3
  obtain ⟨⟨h4, h5⟩, h6⟩ := h3
  obtain ⟨pc, i, len, a, b, t⟩ := q
  dsimp only at h4 h5 h6
  have h5' : len = ilen i ∨ (∃ d l h o, i = .tableswitch d l h o) ∨ ∃ d p, i = .lookupswitch d p := h5.elim Or.inl fun z => Or.inr (isSw_or z)
  unfold ROK
  dsimp only
  rw [hw]
  cases i
  case ldc x => exact ⟨h4, h5', KTb_ok _ _ (elem_mem h6), trivial, trivial, fun _ => trivial, trivial⟩
  case ldc_w x => exact ⟨h4, h5', KTb_ok _ _ (elem_mem h6), trivial, trivial, fun _ => trivial, trivial⟩
  case ldc2_w x => exact ⟨h4, h5', KLb_ok _ _ (elem_mem h6), trivial, trivial, fun _ => trivial, trivial⟩
  case goto o => exact ⟨h4, h5', trivial, trivial, of_decide_eq_true (p := (pc : Int) + o = a) h6, fun _ => trivial, trivial⟩
  case ifCond c o => exact ⟨h4, h5', trivial, trivial, of_decide_eq_true (p := (pc : Int) + o = a) h6, fun _ => trivial, trivial⟩
  case if_icmp c o => exact ⟨h4, h5', trivial, trivial, of_decide_eq_true (p := (pc : Int) + o = a) h6, fun _ => trivial, trivial⟩
  case getfield x =>
    simp only [chkL, Bool.and_eq_true, Bool.or_eq_true, decide_eq_true_eq, Bool.not_eq_true', decide_eq_false_iff_not] at h6
    exact ⟨h4, h5', trivial, ⟨FTb_ok _ _ (elem_mem h6.1), h6.2⟩, trivial, fun _ => trivial, trivial⟩
  case putfield x =>
    simp only [chkL, Bool.and_eq_true, Bool.or_eq_true, decide_eq_true_eq, Bool.not_eq_true', decide_eq_false_iff_not] at h6
    obtain ⟨⟨z1, z2⟩, z3⟩ := h6
    exact ⟨h4, h5', trivial, ⟨FTb_ok _ _ (elem_mem z1), z2, by rcases z3 with (z3 | z3) | z3 <;> simp [z3]⟩, trivial, fun _ => trivial, trivial⟩
  case invokevirtual x =>
    simp only [chkL, Bool.and_eq_true, decide_eq_true_eq, Bool.not_eq_true', decide_eq_false_iff_not] at h6
    have hv := VTb_ok _ _ (elem_mem h6.1.2)
    exact ⟨h4, h5', trivial, trivial, trivial, fun _ => ⟨hv.1, LTb_ok _ _ (elem_mem h6.1.1), hv.2.1, hv.2.2⟩, trivial⟩
  case invokestatic x =>
    simp only [chkL] at h6
    by_cases ht : t < 7
    · rw [decide_eq_true ht] at h6
      simp only [cond_true, Bool.and_eq_true] at h6
      have hv := STb_ok _ _ (elem_mem h6.2)
      exact ⟨h4, h5', trivial, trivial, trivial, fun _ => ⟨hv.1, LTb_ok _ _ (elem_mem h6.1), hv.2⟩, ⟨(fun z => by omega), (fun z => by omega), fun z => by omega⟩⟩
    · rw [decide_eq_false ht] at h6
      exact ⟨h4, h5', trivial, trivial, trivial, fun z => absurd z ht, YTb_ok _ _ (elem_mem h6)⟩
  all_goals exact ⟨h4, h5', trivial, trivial, trivial, fun _ => trivial, trivial⟩

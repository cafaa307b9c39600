/-! ===== an interpreter over cell numbers, and that it is sound for the machine ===== -/
/-- an instruction with what its links come to: its length, two numbers, a constant -/
abbrev Ri : Type := Instr × Nat × Nat × Nat × Int
/-- name, code, class number, locals, what it returns, instructions -/
abbrev Mi : Type := MethodName × ByteArray × Nat × Nat × Option FieldType × List (Nat × Ri)
def lk : List (Nat × Ri) → Nat → Option Ri
  | [], _ => none
  | q :: t, pc => cond (Nat.beq q.1 pc) (some q.2) (lk t pc)
theorem lk_mem : ∀ {I : List (Nat × Ri)} {pc : Nat} {r : Ri}, lk I pc = some r → (pc, r) ∈ I
  | [], pc, r, h => by cases h
  | q :: t, pc, r, h => by
    unfold lk at h
    cases hb : Nat.beq q.1 pc with
    | true =>
      rw [hb] at h
      have e : q.1 = pc := Nat.eq_of_beq_eq_true hb
      have e2 : q.2 = r := Option.some.inj h
      rw [← e, ← e2]
      exact List.mem_cons_self
    | false =>
      rw [hb] at h
      exact List.mem_cons_of_mem _ (lk_mem h)
def ilen (i : Instr) : Nat := match i with
  | .bipush _ => 2
  | .sipush _ => 3
  | .ldc _ => 2
  | .ldc_w _ => 3
  | .ldc2_w _ => 3
  | .iload _ => 2
  | .lload _ => 2
  | .istore _ => 2
  | .lstore _ => 2
  | .iinc _ _ => 3
  | .getfield _ => 3
  | .putfield _ => 3
  | .ifCond _ _ => 3
  | .if_icmp _ _ => 3
  | .goto _ => 3
  | .invokevirtual _ => 3
  | .invokestatic _ => 3
  | .invokespecial _ => 3
  | _ => 1
/-- what touches the operand stack alone -/
def opS (i : Instr) (v : Int) (st : List Value) : Option (List Value) := match i with
  | .iconst x => some (.int (Int32.ofInt x) :: st)
  | .bipush x => some (.int (Int8.ofInt x).toInt32 :: st)
  | .sipush x => some (.int (Int16.ofInt x).toInt32 :: st)
  | .lconst x => some (.long (Int64.ofNat (x : Nat)) :: st)
  | .ldc _ => some (.int (Int32.ofInt v) :: st)
  | .ldc_w _ => some (.int (Int32.ofInt v) :: st)
  | .ldc2_w _ => some (.long (Int64.ofInt v) :: st)
  | .iadd => match st with
    | .int y :: .int x :: t => some (.int (x + y) :: t)
    | _ => none
  | .isub => match st with
    | .int y :: .int x :: t => some (.int (x - y) :: t)
    | _ => none
  | .imul => match st with
    | .int y :: .int x :: t => some (.int (x * y) :: t)
    | _ => none
  | .iand => match st with
    | .int y :: .int x :: t => some (.int (x &&& y) :: t)
    | _ => none
  | .ior => match st with
    | .int y :: .int x :: t => some (.int (x ||| y) :: t)
    | _ => none
  | .ixor => match st with
    | .int y :: .int x :: t => some (.int (x ^^^ y) :: t)
    | _ => none
  | .ishl => match st with
    | .int y :: .int x :: t => some (.int (x <<< (y &&& 31)) :: t)
    | _ => none
  | .ishr => match st with
    | .int y :: .int x :: t => some (.int (x >>> (y &&& 31)) :: t)
    | _ => none
  | .iushr => match st with
    | .int y :: .int x :: t => some (.int ((x.toUInt32 >>> (y.toUInt32 &&& Int32.toUInt32 31)).toInt32) :: t)
    | _ => none
  | .idiv => match st with
    | .int y :: .int x :: t => if y = 0 then none else some (.int (x / y) :: t)
    | _ => none
  | .irem => match st with
    | .int y :: .int x :: t => if y = 0 then none else some (.int (x - x / y * y) :: t)
    | _ => none
  | .ladd => match st with
    | .long y :: .long x :: t => some (.long (x + y) :: t)
    | _ => none
  | .lsub => match st with
    | .long y :: .long x :: t => some (.long (x - y) :: t)
    | _ => none
  | .lmul => match st with
    | .long y :: .long x :: t => some (.long (x * y) :: t)
    | _ => none
  | .land => match st with
    | .long y :: .long x :: t => some (.long (x &&& y) :: t)
    | _ => none
  | .lor => match st with
    | .long y :: .long x :: t => some (.long (x ||| y) :: t)
    | _ => none
  | .lxor => match st with
    | .long y :: .long x :: t => some (.long (x ^^^ y) :: t)
    | _ => none
  | .ldiv => match st with
    | .long y :: .long x :: t => if y = 0 then none else some (.long (x / y) :: t)
    | _ => none
  | .lrem => match st with
    | .long y :: .long x :: t => if y = 0 then none else some (.long (x - x / y * y) :: t)
    | _ => none
  | .lshl => match st with
    | .int y :: .long x :: t => some (.long (x <<< (y.toInt64 &&& 63)) :: t)
    | _ => none
  | .lshr => match st with
    | .int y :: .long x :: t => some (.long (x >>> (y.toInt64 &&& 63)) :: t)
    | _ => none
  | .lushr => match st with
    | .int y :: .long x :: t => some (.long ((x.toUInt64 >>> (y.toInt64.toUInt64 &&& Int64.toUInt64 63)).toInt64) :: t)
    | _ => none
  | .lcmp => match st with
    | .long y :: .long x :: t => some (.int (lg_cmp x y) :: t)
    | _ => none
  | .i2l => match st with
    | .int x :: t => some (.long x.toInt64 :: t)
    | _ => none
  | .l2i => match st with
    | .long x :: t => some (.int x.toInt32 :: t)
    | _ => none
  | .i2b => match st with
    | .int x :: t => some (.int x.toInt8.toInt32 :: t)
    | _ => none
  | .dup => match st with
    | .int x :: t => some (.int x :: .int x :: t)
    | .ref x :: t => some (.ref x :: .ref x :: t)
    | _ => none
  | .pop => match st with
    | .int _ :: t => some t
    | .ref _ :: t => some t
    | _ => none
  | .dup2 => match st with
    | .int y :: .ref x :: t => some (.int y :: .ref x :: .int y :: .ref x :: t)
    | .int y :: .int x :: t => some (.int y :: .int x :: .int y :: .int x :: t)
    | _ => none
  | _ => none
/-- what a constant asks of the tables -/
def kok (own : String) (i : Instr) (v : Int) : Prop := match i with
  | .ldc x => Cond.constant own x (Int32.ofInt v) ∈ gw
  | .ldc_w x => Cond.constant own x (Int32.ofInt v) ∈ gw
  | .ldc2_w x => Cond.constantLong own x (Int64.ofInt v) ∈ gw
  | _ => True
set_option maxHeartbeats 4000000 in
theorem opS_sound {S : Sx} {n pc : Nat} {lv st st' : List Value} {σ : Hp} {i : Instr} {v : Int} (hd : decode S.1.1 pc = .ok (i, ilen i)) (hk : kok S.1.2.1 i v) (h : opS i v st = some st') (k : Wx S n (pc + ilen i) lv st' σ) : Wx S n pc lv st σ := by
  cases i
  case iconst x =>
    cases h
    exact Wx_iconst hd rfl k
  case bipush x =>
    cases h
    exact Wx_bipush hd rfl k
  case sipush x =>
    cases h
    exact Wx_sipush hd rfl k
  case lconst x =>
    cases h
    exact Wx_lconst hd rfl k
  case ldc x =>
    cases h
    exact Wx_ldc hd hk k
  case ldc_w x =>
    cases h
    exact Wx_ldcw hd hk k
  case ldc2_w x =>
    cases h
    exact Wx_ldc2 hd hk k
  case iadd =>
    simp only [opS] at h
    split at h
    · cases h
      exact Wx_iadd hd k
    · cases h
  case isub =>
    simp only [opS] at h
    split at h
    · cases h
      exact Wx_isub hd k
    · cases h
  case imul =>
    simp only [opS] at h
    split at h
    · cases h
      exact Wx_imul hd k
    · cases h
  case iand =>
    simp only [opS] at h
    split at h
    · cases h
      exact Wx_iand hd k
    · cases h
  case ior =>
    simp only [opS] at h
    split at h
    · cases h
      exact Wx_ior hd k
    · cases h
  case ixor =>
    simp only [opS] at h
    split at h
    · cases h
      exact Wx_ixor hd k
    · cases h
  case ishl =>
    simp only [opS] at h
    split at h
    · cases h
      exact Wx_ishl hd k
    · cases h
  case ishr =>
    simp only [opS] at h
    split at h
    · cases h
      exact Wx_ishr hd k
    · cases h
  case iushr =>
    simp only [opS] at h
    split at h
    · cases h
      exact Wx_iushr hd k
    · cases h
  case ladd =>
    simp only [opS] at h
    split at h
    · cases h
      exact Wx_ladd hd k
    · cases h
  case lsub =>
    simp only [opS] at h
    split at h
    · cases h
      exact Wx_lsub hd k
    · cases h
  case lmul =>
    simp only [opS] at h
    split at h
    · cases h
      exact Wx_lmul hd k
    · cases h
  case land =>
    simp only [opS] at h
    split at h
    · cases h
      exact Wx_land hd k
    · cases h
  case lor =>
    simp only [opS] at h
    split at h
    · cases h
      exact Wx_lor hd k
    · cases h
  case lxor =>
    simp only [opS] at h
    split at h
    · cases h
      exact Wx_lxor hd k
    · cases h
  case lshl =>
    simp only [opS] at h
    split at h
    · cases h
      exact Wx_lshl hd k
    · cases h
  case lshr =>
    simp only [opS] at h
    split at h
    · cases h
      exact Wx_lshr hd k
    · cases h
  case lushr =>
    simp only [opS] at h
    split at h
    · cases h
      exact Wx_lushr hd k
    · cases h
  case lcmp =>
    simp only [opS] at h
    split at h
    · cases h
      exact Wx_lcmp hd k
    · cases h
  case i2l =>
    simp only [opS] at h
    split at h
    · cases h
      exact Wx_i2l hd k
    · cases h
  case l2i =>
    simp only [opS] at h
    split at h
    · cases h
      exact Wx_l2i hd k
    · cases h
  case i2b =>
    simp only [opS] at h
    split at h
    · cases h
      exact Wx_i2b hd k
    · cases h
  case dup =>
    simp only [opS] at h
    split at h
    · cases h
      exact Wx_dup hd rfl k
    · cases h
      exact Wx_dup hd rfl k
    · cases h
  case pop =>
    simp only [opS] at h
    split at h
    · cases h
      exact Wx_pop hd rfl k
    · cases h
      exact Wx_pop hd rfl k
    · cases h
  case dup2 =>
    simp only [opS] at h
    split at h
    · cases h
      exact Wx_dup2 hd rfl rfl k
    · cases h
      exact Wx_dup2 hd rfl rfl k
    · cases h
  case idiv =>
    simp only [opS] at h
    split at h
    · split at h
      · cases h
      · rename_i hne
        cases h
        exact Wx_idiv hd hne k
    · cases h
  case irem =>
    simp only [opS] at h
    split at h
    · split at h
      · cases h
      · rename_i hne
        cases h
        exact Wx_irem hd hne k
    · cases h
  case ldiv =>
    simp only [opS] at h
    split at h
    · split at h
      · cases h
      · rename_i hne
        cases h
        exact Wx_ldiv hd hne k
    · cases h
  case lrem =>
    simp only [opS] at h
    split at h
    · split at h
      · cases h
      · rename_i hne
        cases h
        exact Wx_lrem hd hne k
    · cases h
  all_goals cases h
/-- locals -/
def st1 (lv : List Value) (i : Nat) (w : Value) : List Value := match i with
  | 0 => lv.set 0 w
  | j + 1 => match lv[j]? with
    | some a => if a.category = 2 then (lv.set j (.retAddr 0)).set (j + 1) w else lv.set (j + 1) w
    | none => lv.set (j + 1) w
def st2 (lv : List Value) (i : Nat) (w : Value) : List Value := (st1 lv i w).set (i + 1) (.retAddr 0)
theorem st1_len (lv : List Value) (i : Nat) (w : Value) : (st1 lv i w).length = lv.length := by
  unfold st1
  split
  · simp
  · split
    · split <;> simp
    · simp
theorem st1_get {lv : List Value} {i k : Nat} {w v : Value} (h : (st1 lv i w)[k]? = some v) (hv : kn v = true) : (k = i ∧ v = w) ∨ (k ≠ i ∧ lv[k]? = some v ∧ ¬ (k + 1 = i ∧ v.category = 2)) := by
  by_cases hk : k = i
  · subst hk
    refine Or.inl ⟨rfl, ?_⟩
    unfold st1 at h
    have key : ∀ l : List Value, (l.set k w)[k]? = some v → v = w := by
      intro l hl
      have hlt : k < l.length := by
        have := (List.getElem?_eq_some_iff.mp hl).1
        simpa using this
      rw [List.getElem?_set_self hlt] at hl
      exact (Option.some.inj hl).symm
    split at h
    · exact key _ h
    · split at h
      · split at h
        · exact key _ h
        · exact key _ h
      · exact key _ h
  · refine Or.inr ⟨hk, ?_⟩
    unfold st1 at h
    split at h
    · rw [List.getElem?_set_ne (Ne.symm hk)] at h
      exact ⟨h, fun q => by omega⟩
    · rename_i j
      split at h
      · rename_i a ha
        split at h
        · rename_i hc
          rw [List.getElem?_set_ne (Ne.symm hk)] at h
          by_cases hj : k = j
          · subst hj
            have hlt : k < lv.length := (List.getElem?_eq_some_iff.mp ha).1
            rw [List.getElem?_set_self hlt] at h
            cases h
            cases hv
          · rw [List.getElem?_set_ne (Ne.symm hj)] at h
            exact ⟨h, fun q => by omega⟩
        · rename_i hc
          rw [List.getElem?_set_ne (Ne.symm hk)] at h
          refine ⟨h, fun q => ?_⟩
          have : k = j := by omega
          subst this
          rw [ha] at h
          cases h
          exact hc q.2
      · rename_i ha
        rw [List.getElem?_set_ne (Ne.symm hk)] at h
        refine ⟨h, fun q => ?_⟩
        have : k = j := by omega
        subst this
        rw [ha] at h
        cases h
theorem lvx_st1 {B nL : Nat} {lv : List Value} {ls' : Array Slot} {i : Nat} {w : Value} (h' : lv_has ls' nL ((i, cv B w) :: (lvp B lv).filter (fun q => !(q.1 == i) && !(q.1 + 1 == i && q.2.category == 2)))) : lvx B (st1 lv i w) nL ls' := by
  refine ⟨h'.1, h'.2.1, fun k v hk hv => ?_⟩
  rcases st1_get hk hv with ⟨rfl, rfl⟩ | ⟨h1, h2, h3⟩
  · exact h'.2.2 _ List.mem_cons_self
  · refine h'.2.2 (k, cv B v) (List.mem_cons_of_mem _ (List.mem_filter.mpr ⟨lvp_mem h2 hv, ?_⟩))
    simp only [Bool.and_eq_true, Bool.not_eq_true', beq_eq_false_iff_ne, ne_eq, Bool.and_eq_false_iff]
    refine ⟨h1, ?_⟩
    by_cases e1 : k + 1 = i
    · exact Or.inr fun e2 => h3 ⟨e1, by rw [← cv_cat B]; exact e2⟩
    · exact Or.inl e1
theorem lvx_st2 {B nL : Nat} {lv : List Value} {ls' : Array Slot} {i : Nat} {w : Value} (h' : lv_has ls' nL ((i, cv B w) :: (lvp B lv).filter (fun q => !(q.1 == i) && (!(q.1 == i + 1) && !(q.1 + 1 == i && q.2.category == 2))))) : lvx B (st2 lv i w) nL ls' := by
  refine ⟨h'.1, h'.2.1, fun k v hk hv => ?_⟩
  unfold st2 at hk
  by_cases h2 : k = i + 1
  · subst h2
    have hlt : i + 1 < (st1 lv i w).length := by
      have := (List.getElem?_eq_some_iff.mp hk).1
      simpa using this
    rw [List.getElem?_set_self hlt] at hk
    cases hk
    cases hv
  rw [List.getElem?_set_ne (Ne.symm h2)] at hk
  rcases st1_get hk hv with ⟨rfl, rfl⟩ | ⟨h1, h3, h4⟩
  · exact h'.2.2 _ List.mem_cons_self
  · refine h'.2.2 (k, cv B v) (List.mem_cons_of_mem _ (List.mem_filter.mpr ⟨lvp_mem h3 hv, ?_⟩))
    simp only [Bool.and_eq_true, Bool.not_eq_true', beq_eq_false_iff_ne, ne_eq, Bool.and_eq_false_iff]
    refine ⟨h1, h2, ?_⟩
    by_cases e1 : k + 1 = i
    · exact Or.inr fun e2 => h4 ⟨e1, by rw [← cv_cat B]; exact e2⟩
    · exact Or.inl e1
/-- loads and stores: which place, which kind (0 int, 1 long, 2 reference), load or store -/
def locOp (i : Instr) : Option (Nat × Nat × Bool) := match i with
  | .iload_n k => some (k, 0, true)
  | .iload k => some (k, 0, true)
  | .lload_n k => some (k, 1, true)
  | .lload k => some (k, 1, true)
  | .aload_n k => some (k, 2, true)
  | .istore_n k => some (k, 0, false)
  | .istore k => some (k, 0, false)
  | .lstore_n k => some (k, 1, false)
  | .lstore k => some (k, 1, false)
  | .astore_n k => some (k, 2, false)
  | _ => none
def opL (i : Instr) (lv st : List Value) : Option (List Value × List Value) := match locOp i with
  | some (p, 0, true) => match lv[p]? with
    | some (.int x) => some (lv, .int x :: st)
    | _ => none
  | some (p, 1, true) => match lv[p]? with
    | some (.long x) => some (lv, .long x :: st)
    | _ => none
  | some (p, 2, true) => match lv[p]? with
    | some (.ref x) => some (lv, .ref x :: st)
    | _ => none
  | some (p, 0, false) => match st with
    | .int x :: t => if p < lv.length then some (st1 lv p (.int x), t) else none
    | _ => none
  | some (p, 1, false) => match st with
    | .long x :: t => if p + 1 < lv.length then some (st2 lv p (.long x), t) else none
    | _ => none
  | some (p, 2, false) => match st with
    | .ref x :: t => if p < lv.length then some (st1 lv p (.ref x), t) else none
    | _ => none
  | _ => match i with
    | .iinc p y => match lv[p]? with
      | some (.int x) => some (st1 lv p (.int (x + Int32.ofInt y)), st)
      | _ => none
    | _ => none

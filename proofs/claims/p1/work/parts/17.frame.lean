/-! ===== what the interpreter can reach: cells of a kind that is closed under references; the others stay ===== -/
def rok (P : Nat → Prop) (v : Value) : Prop := ∀ i, v = .ref i → P i
def clo (P : Nat → Prop) (σ : Hp) : Prop := ∀ i, P i → ∀ k j, gR σ i k = some j → P j
def sam (P : Nat → Prop) (σ τ : Hp) : Prop := ∀ i, ¬ P i → gI τ i = gI σ i ∧ gR τ i = gR σ i ∧ gA τ i = gA σ i ∧ gL τ i = gL σ i
theorem sam.rf {P : Nat → Prop} {σ : Hp} : sam P σ σ := fun _ _ => ⟨rfl, rfl, rfl, rfl⟩
theorem sam.tr {P : Nat → Prop} {σ τ υ : Hp} (h1 : sam P σ τ) (h2 : sam P τ υ) : sam P σ υ := fun i hi =>
  ⟨(h2 i hi).1.trans (h1 i hi).1, (h2 i hi).2.1.trans (h1 i hi).2.1, (h2 i hi).2.2.1.trans (h1 i hi).2.2.1, (h2 i hi).2.2.2.trans (h1 i hi).2.2.2⟩
theorem sam_pI {P : Nat → Prop} {σ : Hp} {o k : Nat} {x : Int32} (h : P o) : sam P σ (pI σ o k x) := fun i hi => by
  have e : i ≠ o := fun q => hi (q ▸ h)
  exact ⟨by funext b; simp [gI, pI, up2, e], rfl, rfl, rfl⟩
theorem sam_pR {P : Nat → Prop} {σ : Hp} {o k : Nat} {x : Option Nat} (h : P o) : sam P σ (pR σ o k x) := fun i hi => by
  have e : i ≠ o := fun q => hi (q ▸ h)
  exact ⟨rfl, by funext b; simp [gR, pR, up2, e], rfl, rfl⟩
theorem sam_pA {P : Nat → Prop} {σ : Hp} {o k : Nat} {x : Int32} (h : P o) : sam P σ (pA σ o k x) := fun i hi => by
  have e : i ≠ o := fun q => hi (q ▸ h)
  exact ⟨rfl, rfl, by funext b; simp [gA, pA, up2, e], rfl⟩
theorem sam_pL {P : Nat → Prop} {σ : Hp} {o k : Nat} {x : Int64} (h : P o) : sam P σ (pL σ o k x) := fun i hi => by
  have e : i ≠ o := fun q => hi (q ▸ h)
  exact ⟨rfl, rfl, rfl, by funext b; simp [gL, pL, up2, e]⟩
theorem sam_rA {P : Nat → Prop} {σ : Hp} {o : Nat} {r : Nat → Int32} (h : P o) : sam P σ (rA σ o r) := fun i hi => by
  have e : i ≠ o := fun q => hi (q ▸ h)
  exact ⟨rfl, rfl, by funext b; simp [gA, rA, upr, e], rfl⟩
theorem clo_pR {P : Nat → Prop} {σ : Hp} {o k j : Nat} (hc : clo P σ) (hj : P j) : clo P (pR σ o k (some j)) := by
  intro i hi b q h
  by_cases e : i = o ∧ b = k
  · obtain ⟨rfl, rfl⟩ := e
    have : some j = some q := by simpa [gR, pR, up2] using h
    cases this
    exact hj
  · refine hc i hi b q ?_
    rw [← h]
    by_cases e1 : i = o
    · have e2 : ¬ b = k := fun z => e ⟨e1, z⟩
      simp [gR, pR, up2, e1, e2]
    · simp [gR, pR, up2, e1]
def allR (P : Nat → Prop) (l : List Value) : Prop := ∀ v ∈ l, rok P v
theorem allR.tl {P : Nat → Prop} {v : Value} {l : List Value} (h : allR P (v :: l)) : allR P l := fun w hw => h w (List.mem_cons_of_mem _ hw)
theorem allR.hd {P : Nat → Prop} {v : Value} {l : List Value} (h : allR P (v :: l)) : rok P v := h v List.mem_cons_self
theorem allR.i {P : Nat → Prop} {x : Int32} {l : List Value} (h : allR P l) : allR P (.int x :: l) := fun w hw => by
  rcases List.mem_cons.mp hw with rfl | hw
  · intro i q; cases q
  · exact h w hw
theorem allR.l {P : Nat → Prop} {x : Int64} {l : List Value} (h : allR P l) : allR P (.long x :: l) := fun w hw => by
  rcases List.mem_cons.mp hw with rfl | hw
  · intro i q; cases q
  · exact h w hw
theorem allR.r {P : Nat → Prop} {j : Nat} {l : List Value} (hj : P j) (h : allR P l) : allR P (.ref j :: l) := fun w hw => by
  rcases List.mem_cons.mp hw with rfl | hw
  · intro i q; cases q; exact hj
  · exact h w hw
theorem opS_fr {P : Nat → Prop} {i : Instr} {v : Int} {st st' : List Value} (hs : allR P st) (h : opS i v st = some st') : allR P st' := by
  cases i
  case iconst x => cases h; exact hs.i
  case bipush x => cases h; exact hs.i
  case sipush x => cases h; exact hs.i
  case lconst x => cases h; exact hs.l
  case ldc x => cases h; exact hs.i
  case ldc_w x => cases h; exact hs.i
  case ldc2_w x => cases h; exact hs.l
  case dup =>
    simp only [opS] at h
    split at h
    · cases h; exact hs.i
    · cases h; exact allR.r (hs.hd _ rfl) hs
    · cases h
  case dup2 =>
    simp only [opS] at h
    split at h
    · cases h; exact (allR.r (hs.tl.hd _ rfl) hs).i
    · cases h; exact hs.i.i
    · cases h
  case pop =>
    simp only [opS] at h
    split at h
    · cases h; exact hs.tl
    · cases h; exact hs.tl
    · cases h
  case i2l =>
    simp only [opS] at h
    split at h
    · cases h; exact hs.tl.l
    · cases h
  case l2i =>
    simp only [opS] at h
    split at h
    · cases h; exact hs.tl.i
    · cases h
  case i2b =>
    simp only [opS] at h
    split at h
    · cases h; exact hs.tl.i
    · cases h
  case idiv =>
    simp only [opS] at h
    split at h
    · split at h
      · cases h
      · cases h; exact hs.tl.tl.i
    · cases h
  case irem =>
    simp only [opS] at h
    split at h
    · split at h
      · cases h
      · cases h; exact hs.tl.tl.i
    · cases h
  case ldiv =>
    simp only [opS] at h
    split at h
    · split at h
      · cases h
      · cases h; exact hs.tl.tl.l
    · cases h
  case lrem =>
    simp only [opS] at h
    split at h
    · split at h
      · cases h
      · cases h; exact hs.tl.tl.l
    · cases h
  all_goals first
    | (cases h; done)
    | (simp only [opS] at h; split at h <;> first | (cases h; done) | (cases h; first | exact hs.tl.tl.i | exact hs.tl.tl.l))
theorem st1_fr {P : Nat → Prop} {lv : List Value} {i : Nat} {w : Value} (h : allR P lv) (hw : rok P w) : allR P (st1 lv i w) := by
  have key : ∀ (l : List Value) (k : Nat) (u : Value), allR P l → rok P u → allR P (l.set k u) := by
    intro l k u hl hu v hv
    rcases List.mem_or_eq_of_mem_set hv with q | q
    · exact hl v q
    · rw [q]; exact hu
  unfold st1
  split
  · exact key _ _ _ h hw
  · split
    · split
      · exact key _ _ _ (key _ _ _ h (fun i q => by cases q)) hw
      · exact key _ _ _ h hw
    · exact key _ _ _ h hw
theorem opL_fr {P : Nat → Prop} {i : Instr} {lv st : List Value} {q : List Value × List Value} (hl : allR P lv) (hs : allR P st) (h : opL i lv st = some q) : allR P q.1 ∧ allR P q.2 := by
  have hi : ∀ x : Int32, rok P (.int x) := fun x i q => by cases q
  have hg : ∀ x : Int64, rok P (.long x) := fun x i q => by cases q
  unfold opL at h
  split at h
  · split at h
    · cases h; exact ⟨hl, hs.i⟩
    · cases h
  · split at h
    · cases h; exact ⟨hl, hs.l⟩
    · cases h
  · split at h
    · rename_i x hx
      cases h
      exact ⟨hl, allR.r (hl _ (List.mem_of_getElem? hx) _ rfl) hs⟩
    · cases h
  · split at h
    · split at h
      · cases h; exact ⟨st1_fr hl (hi _), hs.tl⟩
      · cases h
    · cases h
  · split at h
    · split at h
      · cases h
        refine ⟨fun v hv => ?_, hs.tl⟩
        unfold st2 at hv
        rcases List.mem_or_eq_of_mem_set hv with z | z
        · exact st1_fr hl (hg _) v z
        · rw [z]; intro i q; cases q
      · cases h
    · cases h
  · split at h
    · split at h
      · cases h; exact ⟨st1_fr hl hs.hd, hs.tl⟩
      · cases h
    · cases h
  · split at h
    · split at h
      · cases h; exact ⟨st1_fr hl (hi _), hs⟩
      · cases h
    · cases h
theorem opH_fr {P : Nat → Prop} {i : Instr} {a b : Nat} {t : Int} {st : List Value} {σ : Hp} {q : List Value × Hp} (hs : allR P st) (hc : clo P σ) (h : opH i a b t st σ = some q) : allR P q.1 ∧ clo P q.2 ∧ sam P σ q.2 := by
  cases i
  case getfield x =>
    simp only [opH] at h
    split at h
    · obtain ⟨-, h⟩ := cond_some h
      split at h
      · split at h
        · rename_i hr
          cases h
          exact ⟨allR.r (hc _ (hs.hd _ rfl) _ _ hr) hs.tl, hc, sam.rf⟩
        · cases h
      · cases h; exact ⟨hs.tl.i, hc, sam.rf⟩
    · cases h
  case putfield x =>
    simp only [opH] at h
    split at h
    · obtain ⟨-, h⟩ := cond_some h
      split at h
      · cases h; exact ⟨hs.tl.tl, hc, sam_pI (hs.tl.hd _ rfl)⟩
      · split at h
        · cases h; exact ⟨hs.tl.tl, hc, sam_pI (hs.tl.hd _ rfl)⟩
        · cases h
      · cases h
    · obtain ⟨-, h⟩ := cond_some h
      split at h
      · cases h; exact ⟨hs.tl.tl, clo_pR hc (hs.hd _ rfl), sam_pR (hs.tl.hd _ rfl)⟩
      · cases h
    · cases h
  case iaload =>
    simp only [opH] at h
    split at h
    · split at h
      · obtain ⟨-, h⟩ := cond_some h
        cases h; exact ⟨hs.tl.tl.i, hc, sam.rf⟩
      · cases h
    · cases h
  case baload =>
    simp only [opH] at h
    split at h
    · split at h
      · obtain ⟨-, h⟩ := cond_some h
        cases h; exact ⟨hs.tl.tl.i, hc, sam.rf⟩
      · obtain ⟨-, h⟩ := cond_some h
        cases h; exact ⟨hs.tl.tl.i, hc, sam.rf⟩
      · cases h
    · cases h
  case laload =>
    simp only [opH] at h
    split at h
    · split at h
      · obtain ⟨-, h⟩ := cond_some h
        cases h; exact ⟨hs.tl.tl.l, hc, sam.rf⟩
      · cases h
    · cases h
  case iastore =>
    simp only [opH] at h
    split at h
    · split at h
      · obtain ⟨-, h⟩ := cond_some h
        cases h; exact ⟨hs.tl.tl.tl, hc, sam_pA (hs.tl.tl.hd _ rfl)⟩
      · cases h
    · cases h
  case bastore =>
    simp only [opH] at h
    split at h
    · split at h
      · obtain ⟨-, h⟩ := cond_some h
        cases h; exact ⟨hs.tl.tl.tl, hc, sam_pA (hs.tl.tl.hd _ rfl)⟩
      · obtain ⟨-, h⟩ := cond_some h
        split at h
        · cases h; exact ⟨hs.tl.tl.tl, hc, sam_pA (hs.tl.tl.hd _ rfl)⟩
        · cases h
      · cases h
    · cases h
  case lastore =>
    simp only [opH] at h
    split at h
    · split at h
      · obtain ⟨-, h⟩ := cond_some h
        cases h; exact ⟨hs.tl.tl.tl, hc, sam_pL (hs.tl.tl.hd _ rfl)⟩
      · cases h
    · cases h
  case arraylength =>
    simp only [opH] at h
    split at h
    · split at h
      · obtain ⟨-, h⟩ := cond_some h
        cases h; exact ⟨hs.tl.i, hc, sam.rf⟩
      · cases h
    · cases h
  all_goals cases h
theorem opJ_fr {P : Nat → Prop} {i : Instr} {a pc : Nat} {st : List Value} {q : Nat × List Value} (hs : allR P st) (h : opJ i a pc st = some q) : allR P q.2 := by
  cases i
  case goto o => cases h; exact hs
  case ifCond c o =>
    simp only [opJ] at h
    split at h
    · cases h; exact hs.tl
    · cases h
  case if_icmp c o =>
    simp only [opJ] at h
    split at h
    · cases h; exact hs.tl.tl
    · cases h
  case tableswitch d l u o =>
    simp only [opJ] at h
    split at h
    · split at h
      · split at h
        · cases h; exact hs.tl
        · cases h
      · cases h
    · cases h
  case lookupswitch d p =>
    simp only [opJ] at h
    split at h
    · split at h
      · cases h; exact hs.tl
      · cases h
    · cases h
  all_goals cases h
theorem opY_fr {P : Nat → Prop} {i : Instr} {t : Int} {st : List Value} {σ : Hp} {q : List Value × Hp} (hs : allR P st) (hc : clo P σ) (h : opY i t st σ = some q) : allR P q.1 ∧ clo P q.2 ∧ sam P σ q.2 := by
  cases i
  case invokestatic x =>
    simp only [opY] at h
    split at h
    · split at h
      · split at h
        · obtain ⟨-, h⟩ := cond_some h
          cases h
          exact ⟨hs.tl.tl.tl.tl.tl, hc, sam_rA (hs.tl.tl.hd _ rfl)⟩
        · cases h
      · cases h
    · split at h
      · obtain ⟨-, h⟩ := cond_some h
        cases h
        exact ⟨hs.tl.tl.i, hc, sam.rf⟩
      · cases h
    · split at h
      · obtain ⟨-, h⟩ := cond_some h
        cases h
        exact ⟨hs.tl.tl.i, hc, sam.rf⟩
      · cases h
    · cases h
  all_goals cases h
theorem opC_fr {P : Nat → Prop} {mt : Nat → Mi} {i : Instr} {a b : Nat} {t : Int} {st : List Value} {q : List Value × List Value} (hs : allR P st) (h : opC mt i a b t st = some q) : allR P q.1 ∧ allR P q.2 := by
  have ht : allR P (st.take b).reverse := fun v hv => hs v (List.mem_of_mem_take (List.mem_reverse.mp hv))
  have hd : allR P (st.drop b) := fun v hv => hs v (List.mem_of_mem_drop hv)
  cases i
  case invokevirtual x =>
    simp only [opC] at h
    split at h
    · rename_i o r hst
      obtain ⟨-, h⟩ := cond_some h
      cases h
      rw [hst] at hd
      exact ⟨allR.r (hd.hd _ rfl) ht, hd.tl⟩
    · cases h
  case invokestatic x =>
    simp only [opC] at h
    obtain ⟨-, h⟩ := cond_some h
    cases h
    exact ⟨ht, hd⟩
  all_goals cases h
theorem opR_fr {P : Nat → Prop} {i : Instr} {ret : Option FieldType} {st : List Value} {v : Option Value} (h : opR ret i st = some v) : allR P v.toList := by
  have h0 : ∀ x : Int32, allR P [.int x] := fun x => allR.i (fun _ q => by cases q)
  have h1 : ∀ x : Int64, allR P [.long x] := fun x => allR.l (fun _ q => by cases q)
  cases i
  case ireturn =>
    simp only [opR] at h
    split at h
    · split at h
      · cases h; exact h0 _
      · split at h
        · cases h; exact h0 _
        · cases h
      · cases h
    · cases h
  case lreturn =>
    simp only [opR] at h
    split at h
    · split at h
      · cases h; exact h1 _
      · cases h
    · cases h
  case return_ =>
    simp only [opR] at h
    split at h
    · split at h
      · cases h; exact fun _ q => by cases q
      · cases h
    · cases h
  all_goals cases h
theorem lvE_fr {P : Nat → Prop} {av : List Value} {n : Nat} (h : allR P av) : allR P (lvE av n) := by
  have key : ∀ av : List Value, allR P av → allR P (lvD av) := by
    intro av
    induction av with
    | nil => intro _ v hv; cases hv
    | cons a t ih =>
      intro h v hv
      unfold lvD at hv
      split at hv
      · rcases List.mem_cons.mp hv with rfl | hv
        · exact h.hd
        · rcases List.mem_cons.mp hv with rfl | hv
          · intro i q; cases q
          · exact ih h.tl v hv
      · rcases List.mem_cons.mp hv with rfl | hv
        · exact h.hd
        · exact ih h.tl v hv
  intro v hv
  rcases List.mem_append.mp hv with hv | hv
  · exact key av h v hv
  · rw [(List.mem_replicate.mp hv).2]
    intro i q; cases q
/-- cells of another kind stay -/
theorem ex_frame {P : Nat → Prop} {mt : Nat → Mi} : ∀ (f d : Nat) (M : Mi) (pc : Nat) (lv st : List Value) (σ : Hp) (v : Option Value) (τ : Hp), allR P lv → allR P st → clo P σ → ex mt f d M pc lv st σ = some (.inl v, τ) → allR P v.toList ∧ clo P τ ∧ sam P σ τ := by
  intro f
  induction f with
  | zero =>
    intro d M pc lv st σ v τ _ _ _ h
    cases h
  | succ f ih =>
    intro d M pc lv st σ v τ hl hs hc h
    unfold ex at h
    split at h
    · cases h
    split at h
    · rename_i hS
      exact ih _ _ _ _ _ _ _ _ hl (opS_fr hs hS) hc h
    split at h
    · rename_i hL
      exact ih _ _ _ _ _ _ _ _ (opL_fr hl hs hL).1 (opL_fr hl hs hL).2 hc h
    split at h
    · rename_i hH
      obtain ⟨q1, q2, q3⟩ := opH_fr hs hc hH
      obtain ⟨w1, w2, w3⟩ := ih _ _ _ _ _ _ _ _ hl q1 q2 h
      exact ⟨w1, w2, q3.tr w3⟩
    split at h
    · rename_i hJ
      exact ih _ _ _ _ _ _ _ _ hl (opJ_fr hs hJ) hc h
    split at h
    · rename_i hR
      cases h
      exact ⟨opR_fr hR, hc, sam.rf⟩
    split at h
    · cases h
    split at h
    · cases h
    split at h
    · rename_i hY
      obtain ⟨q1, q2, q3⟩ := opY_fr hs hc hY
      obtain ⟨w1, w2, w3⟩ := ih _ _ _ _ _ _ _ _ hl q1 q2 h
      exact ⟨w1, w2, q3.tr w3⟩
    split at h
    · cases h
    rename_i hC
    obtain ⟨c1, c2⟩ := opC_fr hs hC
    split at h
    · rename_i w τ' hE
      obtain ⟨-, h⟩ := cond_some h
      obtain ⟨e1, e2, e3⟩ := ih _ _ _ _ _ _ _ _ (lvE_fr c1) (fun _ q => by cases q) hc hE
      have hst : allR P (w.toList ++ _) := fun u hu => (List.mem_append.mp hu).elim (e1 u) (c2 u)
      obtain ⟨w1, w2, w3⟩ := ih _ _ _ _ _ _ _ _ hl hst e2 h
      exact ⟨w1, w2, e3.tr w3⟩
    · cases (cond_some h).2
    · cases h
/-- more fuel does no harm -/
theorem ex_more {mt : Nat → Mi} : ∀ (f d : Nat) (M : Mi) (pc : Nat) (lv st : List Value) (σ : Hp) (r : Oc × Hp), ex mt f d M pc lv st σ = some r → ex mt (f + 1) d M pc lv st σ = some r := by
  intro f
  induction f with
  | zero =>
    intro d M pc lv st σ r h
    cases h
  | succ f ih =>
    intro d M pc lv st σ r h
    unfold ex at h
    unfold ex
    split at h
    · cases h
    rename_i r' hr
    split at h
    · rename_i hS
      try simp only [hS]
      exact ih _ _ _ _ _ _ _ h
    rename_i hS
    try simp only [hS]
    split at h
    · rename_i hL
      try simp only [hL]
      exact ih _ _ _ _ _ _ _ h
    rename_i hL
    try simp only [hL]
    split at h
    · rename_i hH
      try simp only [hH]
      exact ih _ _ _ _ _ _ _ h
    rename_i hH
    try simp only [hH]
    split at h
    · rename_i hJ
      try simp only [hJ]
      exact ih _ _ _ _ _ _ _ h
    rename_i hJ
    try simp only [hJ]
    split at h
    · rename_i hR
      try simp only [hR]
      exact h
    rename_i hR
    try simp only [hR]
    split at h
    · rename_i hT
      try simp only [hT]
      exact h
    rename_i hT
    try simp only [hT]
    split at h
    · cases h
    try simp only
    split at h
    · rename_i hY
      try simp only [hY]
      exact ih _ _ _ _ _ _ _ h
    rename_i hY
    try simp only [hY]
    split at h
    · cases h
    rename_i hC
    try simp only [hC]
    split at h
    · rename_i hE
      try rw [ih _ _ _ _ _ _ _ hE]
      obtain ⟨hb, h⟩ := cond_some h
      simp only [hb, cond_true]
      exact ih _ _ _ _ _ _ _ h
    · rename_i hE
      try rw [ih _ _ _ _ _ _ _ hE]
      exact h
    · cases h

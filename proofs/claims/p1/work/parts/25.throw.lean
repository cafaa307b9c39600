/-! ===== throws ===== -/
abbrev ET : State → Code → Prop := fun _ c => c.exceptionTable.isEmpty = true
/-- a contract of a method that may throw -/
def CxT (y : MethodName) (code : ByteArray) (maxL : Nat) (ret : Option FieldType) (d : Nat) (av : List Value) (σ : Hp) (Q : Oc → Hp → Prop) : Prop :=
  ∀ (l : Launch) (G : Gx), MetFree l y (headSpec (Cond.code y code maxL ret :: gw) { frames := d, cells := 0, slots := 0, locals := 30 * d }) (va_Pc (av.map (cv G.2.2)) (Px G 122 σ)) (fun _ _ _ _ _ => True)
    (fun a st o t => QX G 122 Q a st o t ∧ ∃ L, st.WarmedH t.vm ∧ st.sameButNew ({ t with vm := st.vm } : State) L 0 0 ∧ ∀ q ∈ L, G.2.2 ≤ q.base)
theorem CxT_of {y : MethodName} {code : ByteArray} {maxL : Nat} {ret : Option FieldType} {d : Nat} {av lv : List Value} {σ : Hp} {Q : Oc → Hp → Prop} (own : String) (hy : plainName y.cls = true) (ho : y.cls = own)
    (hlv : lvE av maxL = lv) (hlen : (lvD av).length ≤ maxL) (body : Wx ((code, own, ret, maxL, false), d, 122, 122, true, Q, ET) 122 0 lv [] σ) : CxT y code maxL ret d av σ Q := by
  intro l G
  refine MetFree.of_bodyS (code := code) (maxLocals := maxL) (ret := ret) hy ?_ ?_
  · intro args s m h hn
    obtain ⟨meth, c, h1, h2, h3, h4, h5, h6, -, -⟩ := Cond.code_spec hn (atoms_spec (ws := Cond.code y code maxL ret :: gw) h _ List.mem_cons_self)
    exact ⟨meth, c, h1, h2, h3, h4, h5, h6⟩
  · intro p e s m args below meth c s₁ B hml hv _
    obtain ⟨rfl, hKt, hP, hsz⟩ := hv
    have hts := atoms_spec (ws := Cond.code y code maxL ret :: gw) B.pre
    have hE : c.exceptionTable.isEmpty = true := B.noHandlers (hts _ List.mem_cons_self)
    have C : CX ((code, own, ret, maxL, false), d, 122, 122, true, Q, ET) p { frames := d, cells := 0, slots := 0, locals := 30 * d } s m (av.map (cv G.2.2)).toArray meth c G :=
      ⟨B.exec, B.bytes, B.returns, hml, by rw [← ho]; exact findClass_of_methodNamed B.named, fun w hw => hts w (List.mem_cons_of_mem _ hw), B.notSynchronized, (fun h => by cases h), ⟨Nat.le_refl _, Nat.le_refl _, (show 122 - 122 ≤ 0 from Nat.le_of_eq (Nat.sub_self 122)), (show sl 122 - sl 122 ≤ 0 from Nat.le_of_eq (Nat.sub_self (sl 122)))⟩, hKt, hsz, hE⟩
    have h := body p l e { frames := d, cells := 0, slots := 0, locals := 30 * d } s m (av.map (cv G.2.2)).toArray below meth c G s.heap [] _ C ⟨Nat.le_refl _, Nat.le_refl _⟩ ⟨hP, va_S.rf⟩ (by rw [← hlv]; exact lvx_entry hlen)
    have hh0 : s₁.heap = s.heap := by rw [B.state]; rfl
    dsimp only at h
    rw [Nat.sub_self, Nat.sub_self] at h
    rw [lg_entry_eq]
    obtain ⟨t, a1, o, b1, b2, b3, b4, L, b5, b6, b7⟩ := h s₁ hh0 (Stand.of_body B)
    exact ⟨t, o, a1, b1, b2, b3, L, b5, b6, b7⟩
theorem covers_none {c : Code} (h : c.exceptionTable.isEmpty = true) (pc : Nat) : ∀ x ∈ c.exceptionTable.toList, covers x pc = false := by
  intro x hx
  rw [Array.isEmpty_iff.mp h] at hx
  cases hx
/-- an exception is under way in the frame at pc -/
def Tx (S : Sx) (pc : Nat) (lv st : List Value) (σ : Hp) (j : Nat) : Prop :=
  ∀ (p : Program) (l : Launch) (e : Env) (R : Room) (s : State) (m : MethodId) (args : Array Value) (below : List Frame) (meth : Method) (c : Code) (G : Gx) (H : Heap) (locs : List Loc) (ls : Array Slot),
    CX S p R s m args meth c G → S.2.2.1 ≤ 122 ∧ 122 ≤ S.2.2.2.1 → Ht G 122 σ s H locs → lvx G.2.2 lv S.1.2.2.2.1 ls → ∀ T : State, T.heap = H → Stand p l e R s m args below meth c T locs (122 - S.2.2.1) (sl 122 - sl S.2.2.1) →
    ∃ t, Steps p.tables e below ((T.setTop (F0 m pc ls (st.map (cv G.2.2)))).pushFrame (.throwing (G.2.2 + j))) t ∧
      MZ S.2.2.2.2.1 below (QX G S.2.2.2.1 S.2.2.2.2.2.1) args s (S.2.2.2.1 - S.2.2.1) (sl S.2.2.2.1 - sl S.2.2.1) (fun q => G.2.2 ≤ q) t
theorem Tx_out {S : Sx} {pc : Nat} {lv st : List Value} {σ : Hp} {j : Nat} (hE : S.2.2.2.2.2.2 = ET) (hth : S.2.2.2.2.1 = true) (hF : S.2.2.2.1 = 122) (hQ : S.2.2.2.2.2.1 (.inr j) σ) : Tx S pc lv st σ j := by
  intro p l e R s m args below meth c G H locs ls C hn hH hl T hT X
  have hEc : c.exceptionTable.isEmpty = true := by
    have := C.2.2.2.2.2.2.2.2.2.2.2
    rw [hE] at this
    exact this
  have hlocks : meth.locks = false := C.2.2.2.2.2.2.1
  obtain ⟨h1, h2, h3, h4, h5⟩ := X.leaveThrown (G.2.2 + j) (g := F0 m pc ls (st.map (cv G.2.2))) rfl rfl rfl (covers_none hEc _)
  refine ⟨_, h1, .threw (G.2.2 + j), h2, h3, ⟨⟨.inr j, σ, hQ, rfl, ?_⟩, ?_⟩, Or.inr hth, locs, h4, ?_, hH.2.2.2⟩
  · rw [hF]
    show va_P G.1 cl_all (wW G 122 σ) T.heap
    rw [hT]
    exact hH.1
  · exact hH.2.F (t := T.setFrames _) hT
  · rw [hF]
    exact h5
theorem Wx_athrow {S : Sx} {pc : Nat} {lv st : List Value} {σ : Hp} {j : Nat} (hE : S.2.2.2.2.2.2 = ET) (hth : S.2.2.2.2.1 = true) (hF : S.2.2.2.1 = 122) (hd : decode S.1.1 pc = .ok (.athrow, 1)) (hQ : S.2.2.2.2.2.1 (.inr j) σ) : Wx S 122 pc lv (.ref j :: st) σ := by
  intro p l e R s m args below meth c G H locs ls C hn hH hl T hT X
  have hEc : c.exceptionTable.isEmpty = true := by
    have := C.2.2.2.2.2.2.2.2.2.2.2
    rw [hE] at this
    exact this
  have hlocks : meth.locks = false := C.2.2.2.2.2.2.1
  obtain ⟨h1, h2, h3, h4, h5⟩ := X.athrowLeaves C.1 (g := F0 m pc ls ((Value.ref j :: st).map (cv G.2.2))) rfl rfl rfl (covers_none hEc _) (a := G.2.2 + j) (rest := st.map (cv G.2.2)) rfl (by rw [C.2.1]; exact hd)
  refine ⟨_, h1, .threw (G.2.2 + j), h2, h3, ⟨⟨.inr j, σ, hQ, rfl, ?_⟩, ?_⟩, Or.inr hth, locs, h4, ?_, hH.2.2.2⟩
  · rw [hF]
    show va_P G.1 cl_all (wW G 122 σ) T.heap
    rw [hT]
    exact hH.1
  · exact hH.2.F (t := T.setFrames _) hT
  · rw [hF]
    exact h5
/-- a call that comes back, or throws -/
theorem call_both {l : Launch} {R : Room} {p : Program} {e : Env} {below : List Frame} {s : State} {sargs : Array Value} {y : MethodName} {len W0 : Nat} {S : Spec} {P : Array Value → State → Prop} {Q : Array Value → State → Outcome → State → Prop} {bytes : ByteArray} {maxL : Nat} {ret : Option FieldType} {E : List Loc → Prop}
    (hM : MetFree l y S P (fun _ _ _ _ _ => True) Q) (hframes : S.room.frames + 1 ≤ R.frames) (hlocals : W0 + (maxL + 11) + S.room.locals ≤ R.locals)
    {m : MethodId} {meth : Method} {c : Code} {U : State} {Ls : List Loc} {c0 s0 : Nat} {g : JFrame} {ig : Instr} {mk : MethodId} {a : Array Value}
    (X : Stand p l e R s m sargs below meth c U Ls c0 s0) (hg : g.method = m) (hsize : g.locals.size = c.maxLocals) (hdg : decode c.code g.pc = .ok (ig, len)) (hW : 2 * g.monitorRoom + (g.stack.map fun v => v.category).sum ≤ W0) (hn : U.methodNamed? y = some mk)
    (h1 : S.pre.before a U = true) (h2 : (Cond.code y bytes maxL ret).before a U = true) (h3 : (Cond.initialized y.cls).before a U = true) (h4 : c0 + S.room.cells ≤ R.cells) (h5 : s0 + S.room.slots ≤ R.slots) (hP : P a (U.calling g mk a))
    (hQ : ∀ a first o t, Q a first o t → ∃ L, first.WarmedH t.vm ∧ first.sameButNew ({ t with vm := first.vm } : State) L 0 0 ∧ E L) :
    ∃ (o : Outcome) (s₂ U' : State) (L : List Loc), Q a (U.calling g mk a) o s₂ ∧ E L ∧ Stand p l e R s m sargs below meth c U' (Ls ++ L) c0 s0 ∧ U'.heap = s₂.heap ∧ U'.vm = s₂.vm ∧
      ((∃ v, o = .returned v ∧ Steps p.tables e below (doInvoke e (U.setTop g) [] mk a).1 (U'.setTop { g with pc := g.pc + len, stack := v.toList ++ g.stack })) ∨
       (∃ b, o = .threw b ∧ Steps p.tables e below (doInvoke e (U.setTop g) [] mk a).1 ((U'.setTop g).pushFrame (.throwing b)))) := by
  obtain ⟨methY, cY, hmY, hcY, -, hlY, -, -, -, -⟩ := Cond.code_spec hn h2
  obtain ⟨kY, hkY, -⟩ := className_of_methodNamed hn
  have hinitY : kY.init = .initialized := Cond.initialized_spec (findClass_of_methodNamed hn) hkY h3
  have h : At U g.method c below := by rw [hg]; exact X.here
  have happ : S.appliesLoose y e.platform (U.calling g mk a) = true :=
    Spec.appliesLoose_calling (g := g) h hdg hn hkY hinitY
      (X.room_calling (g := g) (R' := S.room) hsize hmY hcY hframes (by rw [hlY]; omega) h4 h5) h1
  obtain ⟨mid, hmid⟩ := h.above
  have hfr : (U.setTop g).frames = (.java g :: mid) ++ below := by rw [State.frames_setTop' g h.top, hmid]; rfl
  obtain ⟨o, s₂, hsteps, -, hend, hq⟩ := Steps.callFree hM p X.admits X.cas X.clock (acts := []) hfr happ hP trivial
  have hq' : Q a (U.calling g mk a) o s₂ := hq
  rw [State.frames_setTop' g h.top] at hend
  obtain ⟨L, hW₂, hfe, hEL⟩ := hQ _ _ _ _ hq'
  obtain ⟨e2, q2, q3, q4, q5, q6⟩ := id hfe
  have e3 : s₂ = ({ (U.calling g mk a).setFrames s₂.frames with heap := s₂.heap, slotsUsed := s₂.slotsUsed } : State).setVm s₂.vm := by
    have : s₂ = ({ s₂ with vm := (U.calling g mk a).vm } : State).setVm s₂.vm := rfl
    rw [e2] at this
    exact this
  have hW' : U.WarmedH s₂.vm := hW₂
  obtain ⟨g₀, hg0⟩ := Option.isSome_iff_exists.mp h.top
  obtain ⟨r, hr⟩ := State.topJava?_eq_some.mp hg0
  have hr' : (({ U with heap := s₂.heap, slotsUsed := s₂.slotsUsed } : State).setVm s₂.vm).frames = .java g₀ :: r := hr
  have hsame : U.sameButNew ({ U with heap := s₂.heap, slotsUsed := s₂.slotsUsed } : State) L 0 0 := by
    refine ⟨?_, q2, q3, q4, q5, q6⟩
    obtain ⟨t, ht, -⟩ := State.frames_cons hr
    show ({ U with heap := s₂.heap, slotsUsed := s₂.slotsUsed } : State) = { U.setFrames U.frames with heap := s₂.heap, slotsUsed := s₂.slotsUsed }
    rw [State.setFrames_self ht]
  subst hg
  refine ⟨o, s₂, (({ U with heap := s₂.heap, slotsUsed := s₂.slotsUsed } : State).setVm s₂.vm), L, hq', hEL,
    ⟨X.admits, X.cas, X.clock, X.frames, X.room, X.hears, X.method, X.code, (X.here.setHeapUsed s₂.heap s₂.slotsUsed).setVm hW'.alike, X.tail, State.WarmedH.trans X.warmed hW', X.limits, X.bytes, X.same.trans (hsame.setVm s.vm)⟩, rfl, rfl, ?_⟩
  cases o with
  | returned v =>
    left
    refine ⟨v, rfl, ?_⟩
    obtain ⟨c₂, i₂, len₂, hc₂, hd₂, hf₂⟩ := hend
    have hcc : c₂ = c := by
      have h1 : s₂.code? g.method = U.code? g.method := by
        rw [State.code?_eq, State.code?_eq, hW'.alike.method?]
      exact Option.some.inj (hc₂.symm.trans (h1.trans h.code))
    subst hcc
    have hlen : len₂ = len := by rw [hdg] at hd₂; cases hd₂; rfl
    subst hlen
    have hs₂ : s₂ = (({ U with heap := s₂.heap, slotsUsed := s₂.slotsUsed } : State).setVm s₂.vm).setTop { g with pc := g.pc + len₂, stack := v.toList ++ g.stack } := by
      refine e3.trans ?_
      rw [hf₂, State.calling_eq h.top, State.setFrames_setFrames, State.setTop_of_frames _ hr', hr]
      rfl
    rw [← hs₂]
    exact hsteps
  | threw b =>
    right
    refine ⟨b, rfl, ?_⟩
    have hf₂ : s₂.frames = .throwing b :: .java g :: U.frames.tail := hend
    have hs₂ : s₂ = ((({ U with heap := s₂.heap, slotsUsed := s₂.slotsUsed } : State).setVm s₂.vm).setTop g).pushFrame (.throwing b) := by
      refine e3.trans ?_
      have hcur : (({ U with heap := s₂.heap, slotsUsed := s₂.slotsUsed } : State).setVm s₂.vm).cur < (({ U with heap := s₂.heap, slotsUsed := s₂.slotsUsed } : State).setVm s₂.vm).threads.size := State.cur_lt_of_frames hr'
      rw [State.pushFrame, State.frames_setTop _ hr', State.setTop_of_frames _ hr', State.setFrames_setFrames, hf₂, State.calling_eq h.top, State.setFrames_setFrames, hr]
      rfl
    rw [← hs₂]
    exact hsteps
theorem ht_behind {G : Gx} {s : State} {H : Heap} {locs L : List Loc} {σ τ : Hp} {st₀ t U' : State} (hH : Ht G 122 σ s H locs) (h0 : st₀.heap = H) (hP : va_P G.1 cl_all (wW G 122 τ) t.heap) (hF : va_F (fun q => G.2.2 ≤ q) st₀ t) (hL : ∀ q ∈ L, G.2.2 ≤ q.base) (e1 : U'.heap = t.heap) : Ht G 122 τ s U'.heap (locs ++ L) := by
  obtain ⟨hz, hk⟩ := hF
  rw [h0] at hz hk
  refine ⟨by rw [e1]; exact hP, Nat.le_trans hH.2.1 (by rw [e1]; exact hz), fun q h1 h2 => by rw [e1, hk q (Nat.lt_of_lt_of_le h1 hH.2.1) h2]; exact hH.2.2.1 q h1 h2, fun q hq => ?_⟩
  rcases List.mem_append.mp hq with h | h
  · exact hH.2.2.2 q h
  · exact hL q h
theorem Wx_callVT {S : Sx} {pc : Nat} {lv st : List Value} {σ : Hp} {idx : Nat} {y : MethodName} {code : ByteArray} {maxL : Nat} {ret : Option FieldType} {d : Nat} {Q : Oc → Hp → Prop} (i ci : Nat) (av : List Value) (np : Nat) (hm : mok y code maxL ret np) (hlk : Cond.methodLink S.1.2.1 idx y ∈ gw) (hio : iok y) (hsh : sh i = .inl ci) (hcl : (cl_all[ci]?).map (fun q => q.1) = some y.cls) (hi : i < 122) (hd : decode S.1.1 pc = .ok (.invokevirtual idx, 3)) (hc : CxT y code maxL ret d (.ref i :: av) σ Q)
    (hD : d + 1 ≤ S.2.1) (hp : av.length = np) (hw : wsum st ≤ 8) {st0 : List Value} (hst : st0 = av.reverse ++ .ref i :: st) (kk : ∀ (v : Option Value) (τ : Hp), Q (.inl v) τ → Wx S 122 (pc + 3) lv (v.toList ++ st) τ) (kt : ∀ (j : Nat) (τ : Hp), Q (.inr j) τ → Tx S pc lv st τ j) : Wx S 122 pc lv st0 σ := by
  subst hst
  intro p l e R s m args below meth c G H locs ls C hn hH hl T hT X
  have hR := C.rm
  have hz : H.size ≤ s.heap.size + (122 - S.2.2.1) := by rw [← hT]; exact X.heapSize
  have hs1 := sl_mono hn.1
  have hs3 := sl_mono hn.2
  have hst2 : (av.reverse ++ .ref i :: st).map (cv G.2.2) = (av.map (cv G.2.2)).reverse ++ .ref (G.2.2 + i) :: st.map (cv G.2.2) := by rw [List.map_append, List.map_reverse]; rfl
  rw [hst2]
  have hroom : 2 * (F0 m pc ls (st.map (cv G.2.2))).monitorRoom + ((st.map (cv G.2.2)).map fun v => v.category).sum ≤ 8 := lv_room (by rw [wsum_cv]; exact hw)
  have hrecv : ∃ cell : Cell, H[G.2.2 + i]? = some cell ∧ cell.vm.isStatics = false ∧ s.vm.findClass y.cls = some cell.cls := by
    cases hq : cl_all[ci]? with
    | none => rw [hq] at hcl; cases hcl
    | some q =>
      rw [hq] at hcl
      have e : q.1 = y.cls := Option.some.inj hcl
      rw [← e]
      exact va_recv C.kt.1 hH.1 hq (q0 := i) (by rw [wW_at hi, wE_obj hsh])
  have hpre := Wx_pre (av := .ref i :: av) C hn.1 hH hz
  have hy : y.cls ≠ "java/lang/invoke/MethodHandle" ∧ y.cls ≠ "java/lang/invoke/VarHandle" := ⟨hm.2.2.1.1, hm.2.2.1.2.1⟩
  have hcode := C.wd hm.2.1
  obtain ⟨mk, methM, hnamed, hmethM, hstM, habM⟩ := Cond.instanceMethod_spec (C.wd hio.1)
  obtain ⟨methM', cM, hmethM', -, -, -, -, -, -, hsigM⟩ := Cond.code_spec hnamed hcode
  cases hmethM.symm.trans hmethM'
  obtain ⟨c2, r2, m2, q1, q2, q3, q4, kP, hkP, hkPi⟩ := Cond.selects_spec (C.wd hio.2)
  obtain ⟨cellB, hcB, hoB, hclB⟩ := hrecv
  cases hclB.symm.trans q1
  cases (State.methodFound?_of_named hnamed hy).symm.trans q2
  cases hnamed.symm.trans q3
  have hselP : selectMethod e.platform s.vm cellB.cls mk = .method mk := by rw [Launch.admits_selectMethod X.admits]; exact q4
  have hlen : (av.map (cv G.2.2)).length = methM.sig.parameters.length := by
    have h2 := hm.2.2.1.2.2
    rw [hsigM] at h2
    rw [List.length_map, hp]
    exact (Option.some.inj h2).symm
  obtain ⟨vm₁, X₁, hstep₁⟩ := X.invokevirtual C.1 C.own (C.wd hlk) hnamed hmethM hstM hkP hkPi hy (a := G.2.2 + i) (cell := cellB) (by rw [hT]; exact hcB) (fun z h => by rw [h] at hoB; cases hoB) hselP hmethM habM hkP hkPi (g := F0 m pc ls ((av.map (cv G.2.2)).reverse ++ .ref (G.2.2 + i) :: st.map (cv G.2.2))) rfl (argsL := av.map (cv G.2.2)) (rest := st.map (cv G.2.2)) hlen rfl (by rw [C.2.1]; exact hd)
  have hws := pay_in C.2.2.2.2.2.1 (gw_cons hm.2.1)
  obtain ⟨o, s₂, U', L, hq, hL, X', e1, e2, hor⟩ := call_both (E := fun L => ∀ q ∈ L, G.2.2 ≤ q.base) (bytes := code) (maxL := maxL) (ret := ret) (W0 := 8) (hc l G) (Nat.le_trans hD hR.1) (show 8 + (maxL + 11) + 30 * d ≤ R.locals by have := hm.2.2.2; omega) (g := F0 m pc ls (st.map (cv G.2.2))) (a := (Value.ref (G.2.2 + i) :: av.map (cv G.2.2)).toArray) X₁ rfl (hl.1.trans C.2.2.2.1.symm) (by rw [C.2.1]; exact hd) hroom (X₁.named hnamed)
    (atoms_intro fun w hw => hws w hw _ _ X₁.warmed) (hws _ List.mem_cons_self _ _ X₁.warmed) (word_at X₁.warmed (gw_good _ hm.1).2 (C.wd hm.1)) (show 122 - S.2.2.1 + 0 ≤ R.cells by omega) (show sl 122 - sl S.2.2.1 + 0 ≤ R.slots by omega) (Px_blind _ _ _ _ (hpre.2 (T.setVm vm₁) hT X₁.warmed)) (fun a first o t h => h.2)
  obtain ⟨⟨⟨o', τ, hQ, ho, hP⟩, hFr⟩, -⟩ := hq
  have h0 : ((T.setVm vm₁).calling (F0 m pc ls (st.map (cv G.2.2))) mk (Value.ref (G.2.2 + i) :: av.map (cv G.2.2)).toArray).heap = H := hT
  have hB := ht_behind hH h0 hP hFr hL e1
  rcases hor with ⟨v, hv, hst⟩ | ⟨b, hb, hst⟩
  · match o', hQ, ho with
    | .inr j, hQ, ho =>
      rw [hv] at ho
      cases ho
    | .inl w, hQ, ho =>
      have hvv : v = w.map (cv G.2.2) := Outcome.returned.inj (hv.symm.trans ho)
      subst hvv
      obtain ⟨t2, a1, b1⟩ := kk w τ hQ p l e R s m args below meth c G U'.heap (locs ++ L) ls C hn hB hl U' rfl X'
      refine ⟨t2, hstep₁ _ fun acts => ?_, b1⟩
      rw [doInvoke_state]
      have hstk : (w.toList ++ st).map (cv G.2.2) = (w.map (cv G.2.2)).toList ++ st.map (cv G.2.2) := by cases w <;> simp
      rw [hstk] at a1
      exact hst.trans a1
  · match o', hQ, ho with
    | .inl w, hQ, ho =>
      rw [hb] at ho
      cases ho
    | .inr j, hQ, ho =>
      have hbb : b = G.2.2 + j := Outcome.threw.inj (hb.symm.trans ho)
      subst hbb
      obtain ⟨t2, a1, b1⟩ := kt j τ hQ p l e R s m args below meth c G U'.heap (locs ++ L) ls C hn hB hl U' rfl X'
      refine ⟨t2, hstep₁ _ fun acts => ?_, b1⟩
      rw [doInvoke_state]
      exact hst.trans a1

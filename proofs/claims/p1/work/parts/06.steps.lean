/-- int fields, reference fields, rows of ints, rows of longs: by cell and place -/
abbrev Hp : Type := (Nat → Nat → Int32) × (Nat → Nat → Option Nat) × (Nat → Nat → Int32) × (Nat → Nat → Int64)
def gI (σ : Hp) (i k : Nat) : Int32 := σ.1 i k
def gR (σ : Hp) (i k : Nat) : Option Nat := σ.2.1 i k
def gA (σ : Hp) (i j : Nat) : Int32 := σ.2.2.1 i j
def gL (σ : Hp) (i j : Nat) : Int64 := σ.2.2.2 i j
def up2 {α : Type} (f : Nat → Nat → α) (i k : Nat) (v : α) : Nat → Nat → α := fun a b => if a = i then (if b = k then v else f a b) else f a b
def upr {α : Type} (f : Nat → Nat → α) (i : Nat) (r : Nat → α) : Nat → Nat → α := fun a => if a = i then r else f a
def pI (σ : Hp) (i k : Nat) (v : Int32) : Hp := (up2 σ.1 i k v, σ.2)
def pR (σ : Hp) (i k : Nat) (v : Option Nat) : Hp := (σ.1, up2 σ.2.1 i k v, σ.2.2)
def pA (σ : Hp) (i j : Nat) (v : Int32) : Hp := (σ.1, σ.2.1, up2 σ.2.2.1 i j v, σ.2.2.2)
def pL (σ : Hp) (i j : Nat) (v : Int64) : Hp := (σ.1, σ.2.1, σ.2.2.1, up2 σ.2.2.2 i j v)
/-- a whole row of ints -/
def rA (σ : Hp) (i : Nat) (r : Nat → Int32) : Hp := (σ.1, σ.2.1, upr σ.2.2.1 i r, σ.2.2.2)
def rL (σ : Hp) (i : Nat) (r : Nat → Int64) : Hp := (σ.1, σ.2.1, σ.2.2.1, upr σ.2.2.2 i r)
/-- a new cell -/
def nO (σ : Hp) (i : Nat) : Hp := (upr σ.1 i (fun _ => 0), upr σ.2.1 i (fun _ => none), σ.2.2)
def nA (σ : Hp) (i : Nat) : Hp := (σ.1, σ.2.1, upr σ.2.2.1 i (fun _ => 0), upr σ.2.2.2 i (fun _ => 0))
theorem up2_eq {α : Type} (f : Nat → Nat → α) (i k : Nat) (v : α) (a b : Nat) : up2 f i k v a b = if a = i then (if b = k then v else f a b) else f a b := rfl
theorem up2_ne {α : Type} {f : Nat → Nat → α} {i k : Nat} {v : α} {a : Nat} (h : a ≠ i) : up2 f i k v a = f a := by funext b; simp [up2, h]
theorem up2_at {α : Type} (f : Nat → Nat → α) (i k : Nat) (v : α) : up2 f i k v i = fun b => if b = k then v else f i b := by funext b; simp [up2]
/-- the addresses: cell i lies at B + i -/
abbrev Gx : Type := va_G × (Nat → ClassId) × Nat
def cv (B : Nat) (v : Value) : Value := match v with
  | .ref i => .ref (B + i)
  | .retAddr (b + 1) => .ref b
  | w => w
def rv (o : Option Nat) : Value := match o with
  | none => .null
  | some i => .ref i
def isI (ty : FieldType) : Bool := match ty with
  | .int => true
  | .boolean => true
  | _ => false
def fv (σ : Hp) (ci i k : Nat) : Value := if isI (cl_ty ci k) = true then .int (gI σ i k) else rv (gR σ i k)
def rowE (t len : Nat) (σ : Hp) (i : Nat) : vp_A := (len, if t = 2 then .inr (.inl (gL σ i)) else .inl (gA σ i))
def wE (G : Gx) (σ : Hp) (i : Nat) : va_E := match sh i with
  | .inl ci => .inr (ci, (List.range (cl_n ci)).map (fun k => cv G.2.2 (fv σ ci i k)))
  | .inr q => .inl (G.2.1 q.1, rowE q.1 q.2 σ i)
def wW (G : Gx) (n : Nat) (σ : Hp) : va_W := (List.range n).map (fun i => (G.2.2 + i, wE G σ i))
def tyA (t : Nat) : FieldType := match t with
  | 0 => .byte
  | 1 => .int
  | 2 => .long
  | _ => .boolean
def tyL (cy : Nat → ClassId) : List (ClassId × FieldType) := [(cy 0, .byte), (cy 1, .int), (cy 2, .long), (cy 3, .boolean)]
theorem cv_cat (B : Nat) (v : Value) : (cv B v).category = v.category := by
  cases v with
  | retAddr b => cases b <;> rfl
  | _ => rfl
theorem wW_at {G : Gx} {n i : Nat} {σ : Hp} (h : i < n) : (wW G n σ)[i]? = some (G.2.2 + i, wE G σ i) := by
  simp [wW, h]
theorem wW_get {G : Gx} {n i : Nat} {σ : Hp} {q : Nat × va_E} (h : (wW G n σ)[i]? = some q) : i < n ∧ q = (G.2.2 + i, wE G σ i) := by
  by_cases hi : i < n
  · rw [wW_at hi] at h
    exact ⟨hi, (Option.some.inj h).symm⟩
  · simp [wW, hi] at h
theorem wW_D {G : Gx} {n : Nat} {σ : Hp} : va_D (fun q => G.2.2 ≤ q) (wW G n σ) := by
  refine ⟨fun i j p q hp hq h => ?_, fun k q hq => ?_⟩
  · rw [(wW_get hp).2, (wW_get hq).2] at h
    exact Nat.add_left_cancel h
  · rw [(wW_get hq).2]
    exact Nat.le_add_right _ _
theorem wW_set {G : Gx} {n i : Nat} {σ τ : Hp} (h : ∀ j, j < n → j ≠ i → wE G τ j = wE G σ j) : (wW G n σ).set i (G.2.2 + i, wE G τ i) = wW G n τ := by
  apply List.ext_getElem?
  intro k
  by_cases hk : k < n
  · by_cases he : k = i
    · subst he
      rw [List.getElem?_set_self (by simp [wW, hk]), wW_at hk]
    · rw [List.getElem?_set_ne (Ne.symm he), wW_at hk, wW_at hk, h k hk he]
  · simp [wW, hk]
theorem wW_push {G : Gx} {n : Nat} {σ τ : Hp} (h : ∀ j, j < n → wE G τ j = wE G σ j) : wW G n σ ++ [(G.2.2 + n, wE G τ n)] = wW G (n + 1) τ := by
  unfold wW
  rw [List.range_succ, List.map_append]
  refine congrArg (· ++ _) (List.map_congr_left fun j hj => ?_)
  rw [h j (List.mem_range.mp hj)]
/-- a cell's picture looks at that cell alone -/
theorem wE_congr {G : Gx} {σ τ : Hp} {i : Nat} (h1 : gI τ i = gI σ i) (h2 : gR τ i = gR σ i) (h3 : gA τ i = gA σ i) (h4 : gL τ i = gL σ i) : wE G τ i = wE G σ i := by
  unfold wE rowE fv
  rw [h1, h2, h3, h4]
/-! ===== the judgements: Wx, a point of a method; Cx, a method's contract ===== -/
/-- a method: its code, its class, what it returns, its locals, whether it is a constructor -/
abbrev MI : Type := ByteArray × String × Option FieldType × Nat × Bool
/-- an outcome: returned, or threw the cell i -/
abbrev Oc : Type := Option Value ⊕ Nat
/-- the method, the depth, the cells at its start and at its end, whether it may throw, what holds at its end -/
abbrev Sx : Type := MI × Nat × Nat × Nat × Bool × (Oc → Hp → Prop) × (State → Code → Prop)
def ocC (B : Nat) (o : Oc) : Outcome := match o with
  | .inl v => .returned (v.map (cv B))
  | .inr i => .threw (B + i)
def Zt (B : Nat) (U : State) : Prop := va_Zq "java/lang/Throwable" "UNASSIGNED_STACK" "[Ljava/lang/StackTraceElement;" (fun q => B ≤ q) U U.heap ∧ va_Zq "java/lang/Throwable" "SUPPRESSED_SENTINEL" "Ljava/util/List;" (fun q => B ≤ q) U U.heap
def Kt (G : Gx) (U : State) : Prop := va_K G.1 cl_all (tyL G.2.1) U ∧ (∀ w ∈ nw, va_Nw w U) ∧ Zt G.2.2 U
def QX (G : Gx) (nF : Nat) (Q : Oc → Hp → Prop) : Array Value → State → Outcome → State → Prop := fun _ st oc t =>
  (∃ (o : Oc) (τ : Hp), Q o τ ∧ oc = ocC G.2.2 o ∧ va_P G.1 cl_all (wW G nF τ) t.heap) ∧ va_F (fun q => G.2.2 ≤ q) st t
def Px (G : Gx) (n0 : Nat) (σ : Hp) : State → Prop := fun U => Kt G U ∧ va_P G.1 cl_all (wW G n0 σ) U.heap ∧ U.heap.size = G.2.2 + n0
def MZ (th : Bool) (below : List Frame) (Qc : Array Value → State → Outcome → State → Prop) (a : Array Value) (s : State) (mc ms : Nat) (free : Addr → Prop) : State → Prop := fun t =>
  ∃ o, t.status = .running ∧ Ended t below o ∧ Qc a s o t ∧ ((∃ v, o = .returned v) ∨ th = true) ∧ ∃ L, s.WarmedH t.vm ∧ s.sameButNew ({ t with vm := s.vm } : State) L mc ms ∧ ∀ q ∈ L, free q.base
def CX (S : Sx) (p : Program) (R : Room) (s : State) (m : MethodId) (args : Array Value) (meth : Method) (c : Code) (G : Gx) : Prop :=
  p.tables.exec = Jvm.exec ∧ c.code = S.1.1 ∧ meth.sig.returnType = S.1.2.2.1 ∧ c.maxLocals = S.1.2.2.2.1 ∧ s.vm.findClass S.1.2.1 = some m.cls ∧ (∀ w ∈ gw, w.before args s = true) ∧ meth.locks = false ∧
    (S.1.2.2.2.2 = true → meth.name = "<init>") ∧ (S.2.1 ≤ R.frames ∧ 30 * S.2.1 ≤ R.locals ∧ S.2.2.2.1 - S.2.2.1 ≤ R.cells ∧ sl S.2.2.2.1 - sl S.2.2.1 ≤ R.slots) ∧ Kt G s ∧ s.heap.size = G.2.2 + S.2.2.1 ∧ S.2.2.2.2.2.2 s c
theorem CX.own {S : Sx} {p : Program} {R : Room} {s : State} {m : MethodId} {args : Array Value} {meth : Method} {c : Code} {G : Gx} (C : CX S p R s m args meth c G) : s.vm.findClass S.1.2.1 = some m.cls := C.2.2.2.2.1
theorem CX.wd {S : Sx} {p : Program} {R : Room} {s : State} {m : MethodId} {args : Array Value} {meth : Method} {c : Code} {G : Gx} (C : CX S p R s m args meth c G) {w : Cond} (h : w ∈ gw) : w.before args s = true := C.2.2.2.2.2.1 w h
theorem CX.rm {S : Sx} {p : Program} {R : Room} {s : State} {m : MethodId} {args : Array Value} {meth : Method} {c : Code} {G : Gx} (C : CX S p R s m args meth c G) : S.2.1 ≤ R.frames ∧ 30 * S.2.1 ≤ R.locals ∧ S.2.2.2.1 - S.2.2.1 ≤ R.cells ∧ sl S.2.2.2.1 - sl S.2.2.1 ≤ R.slots := C.2.2.2.2.2.2.2.2.1
theorem CX.kt {S : Sx} {p : Program} {R : Room} {s : State} {m : MethodId} {args : Array Value} {meth : Method} {c : Code} {G : Gx} (C : CX S p R s m args meth c G) : Kt G s := C.2.2.2.2.2.2.2.2.2.1
def Ht (G : Gx) (n : Nat) (σ : Hp) (s : State) (H : Heap) (locs : List Loc) : Prop := va_P G.1 cl_all (wW G n σ) H ∧ va_S (fun q => G.2.2 ≤ q) s.heap H locs
/-- the locals by their places; what isn't known stands as retAddr 0 -/
def kn (v : Value) : Bool := match v with
  | .retAddr 0 => false
  | _ => true
def lvx (B : Nat) (lv : List Value) (nL : Nat) (ls : Array Slot) : Prop := ls.size = nL ∧ lv_wf ls ∧ ∀ (i : Nat) (v : Value), lv[i]? = some v → kn v = true → ls[i]? = some (.val (cv B v))
def Wx (S : Sx) (n pc : Nat) (lv st : List Value) (σ : Hp) : Prop :=
  ∀ (p : Program) (l : Launch) (e : Env) (R : Room) (s : State) (m : MethodId) (args : Array Value) (below : List Frame) (meth : Method) (c : Code) (G : Gx) (H : Heap) (locs : List Loc) (ls : Array Slot),
    CX S p R s m args meth c G → S.2.2.1 ≤ n ∧ n ≤ S.2.2.2.1 → Ht G n σ s H locs → lvx G.2.2 lv S.1.2.2.2.1 ls →
    W p l e R s m args below meth c H locs (n - S.2.2.1) (sl n - sl S.2.2.1) (MZ S.2.2.2.2.1 below (QX G S.2.2.2.1 S.2.2.2.2.2.1) args s (S.2.2.2.1 - S.2.2.1) (sl S.2.2.2.1 - sl S.2.2.1) (fun q => G.2.2 ≤ q)) (F0 m pc ls (st.map (cv G.2.2)))
def Cx (y : MethodName) (code : ByteArray) (maxL : Nat) (ret : Option FieldType) (d n0 nF : Nat) (av : List Value) (σ : Hp) (Q : Oc → Hp → Prop) : Prop :=
  ∀ (l : Launch) (G : Gx), Met l y (Cond.code y code maxL ret :: gw) { frames := d, cells := nF - n0, slots := sl nF - sl n0, locals := 30 * d } (va_Pc (av.map (cv G.2.2)) (Px G n0 σ)) (QX G nF Q) (nF - n0) (sl nF - sl n0) (fun q => G.2.2 ≤ q)
/-- the listed locals as pairs -/
def lvp (B : Nat) (lv : List Value) : List (Nat × Value) := (lv.zipIdx.filter (fun q => kn q.1)).map (fun q => (q.2, cv B q.1))
theorem lvp_mem {B : Nat} {lv : List Value} {i : Nat} {v : Value} (h : lv[i]? = some v) (hk : kn v = true) : (i, cv B v) ∈ lvp B lv := by
  refine List.mem_map.mpr ⟨(v, i), List.mem_filter.mpr ⟨?_, hk⟩, rfl⟩
  exact List.mk_mem_zipIdx_iff_getElem?.mpr h
theorem lvp_of {B : Nat} {lv : List Value} {q : Nat × Value} (h : q ∈ lvp B lv) : ∃ v, lv[q.1]? = some v ∧ kn v = true ∧ q.2 = cv B v := by
  obtain ⟨r, hr, e⟩ := List.mem_map.mp h
  obtain ⟨h1, h2⟩ := List.mem_filter.mp hr
  refine ⟨r.1, ?_, h2, by rw [← e]⟩
  rw [← e]
  exact List.mk_mem_zipIdx_iff_getElem?.mp h1
theorem lvx_has {B nL : Nat} {lv : List Value} {ls : Array Slot} (h : lvx B lv nL ls) : lv_has ls nL (lvp B lv) := by
  refine ⟨h.1, h.2.1, fun q hq => ?_⟩
  obtain ⟨v, h1, h2, h3⟩ := lvp_of hq
  rw [h3]
  exact h.2.2 q.1 v h1 h2
theorem lvx_at {B nL : Nat} {lv : List Value} {ls : Array Slot} (h : lvx B lv nL ls) {i : Nat} {v : Value} (hi : lv[i]? = some v) (hk : kn v = true) : ls[i]? = some (.val (cv B v)) := h.2.2 i v hi hk
theorem lvx_ix {B nL : Nat} {lv : List Value} {ls : Array Slot} (_ : lvx B lv nL ls) {i : Nat} {v : Value} (hi : lv[i]? = some v) (hk : kn v = true) : ∃ q : Nat, (lvp B lv)[q]? = some (i, cv B v) := List.getElem?_of_mem (lvp_mem hi hk)
theorem lvx_set1 {B nL : Nat} {lv : List Value} {ls ls' : Array Slot} {i : Nat} {w w0 : Value} (h : lvx B lv nL ls) (hp : i = 0 ∨ ∃ (j : Nat) (a : Value), i = j + 1 ∧ lv[j]? = some a ∧ a.category = 1)
    (h' : lv_has ls' nL ((i, w0) :: (lvp B lv).filter (fun q => !(q.1 == i) && !(q.1 + 1 == i && q.2.category == 2)))) (hw : w0 = cv B w := by rfl) : lvx B (lv.set i w) nL ls' := by
  subst hw
  refine ⟨h'.1, h'.2.1, fun k v hk hv => ?_⟩
  by_cases he : k = i
  · subst he
    have hlt : k < lv.length := by
      have := (List.getElem?_eq_some_iff.mp hk).1
      simpa using this
    rw [List.getElem?_set_self hlt] at hk
    cases hk
    exact h'.2.2 _ List.mem_cons_self
  · rw [List.getElem?_set_ne (Ne.symm he)] at hk
    refine h'.2.2 (k, cv B v) (List.mem_cons_of_mem _ (List.mem_filter.mpr ⟨lvp_mem hk hv, ?_⟩))
    have hc : ¬ (k + 1 = i ∧ (cv B v).category = 2) := by
      rintro ⟨e1, e2⟩
      rcases hp with hp | ⟨j, a, e3, e4, e5⟩
      · omega
      · have : j = k := by omega
        subst this
        rw [hk] at e4
        cases e4
        rw [cv_cat] at e2
        omega
    simp only [Bool.and_eq_true, Bool.not_eq_true', beq_eq_false_iff_ne, ne_eq, Bool.and_eq_false_iff]
    refine ⟨he, ?_⟩
    by_cases e1 : k + 1 = i
    · exact Or.inr fun e2 => hc ⟨e1, e2⟩
    · exact Or.inl e1
theorem lvx_set2 {B nL : Nat} {lv : List Value} {ls ls' : Array Slot} {i : Nat} {w w0 : Value} (h : lvx B lv nL ls) (hp : i = 0 ∨ ∃ (j : Nat) (a : Value), i = j + 1 ∧ lv[j]? = some a ∧ a.category = 1)
    (h' : lv_has ls' nL ((i, w0) :: (lvp B lv).filter (fun q => !(q.1 == i) && (!(q.1 == i + 1) && !(q.1 + 1 == i && q.2.category == 2))))) (hw : w0 = cv B w := by rfl) : lvx B ((lv.set i w).set (i + 1) (.retAddr 0)) nL ls' := by
  subst hw
  refine ⟨h'.1, h'.2.1, fun k v hk hv => ?_⟩
  by_cases h2 : k = i + 1
  · subst h2
    have hlt : i + 1 < (lv.set i w).length := by
      have := (List.getElem?_eq_some_iff.mp hk).1
      simpa using this
    rw [List.getElem?_set_self hlt] at hk
    cases hk
    cases hv
  rw [List.getElem?_set_ne (Ne.symm h2)] at hk
  by_cases he : k = i
  · subst he
    have hlt : k < lv.length := by
      have := (List.getElem?_eq_some_iff.mp hk).1
      simpa using this
    rw [List.getElem?_set_self hlt] at hk
    cases hk
    exact h'.2.2 _ List.mem_cons_self
  · rw [List.getElem?_set_ne (Ne.symm he)] at hk
    refine h'.2.2 (k, cv B v) (List.mem_cons_of_mem _ (List.mem_filter.mpr ⟨lvp_mem hk hv, ?_⟩))
    have hc : ¬ (k + 1 = i ∧ (cv B v).category = 2) := by
      rintro ⟨e1, e2⟩
      rcases hp with hp | ⟨j, a, e3, e4, e5⟩
      · omega
      · have : j = k := by omega
        subst this
        rw [hk] at e4
        cases e4
        rw [cv_cat] at e2
        omega
    simp only [Bool.and_eq_true, Bool.not_eq_true', beq_eq_false_iff_ne, ne_eq, Bool.and_eq_false_iff]
    refine ⟨he, h2, ?_⟩
    by_cases e1 : k + 1 = i
    · exact Or.inr fun e2 => hc ⟨e1, e2⟩
    · exact Or.inl e1
theorem W.mono {p : Program} {l : Launch} {e : Env} {R : Room} {s : State} {m : MethodId} {args : Array Value} {below : List Frame} {meth : Method} {c : Code} {H : Heap} {locs : List Loc} {cells slots : Nat} {Q Q' : State → Prop} {g : JFrame} (h : ∀ t, Q t → Q' t) (k : W p l e R s m args below meth c H locs cells slots Q g) : W p l e R s m args below meth c H locs cells slots Q' g := by
  intro T hT X
  obtain ⟨t, a, b⟩ := k T hT X
  exact ⟨t, a, h t b⟩
theorem MZ_of {th : Bool} {below : List Frame} {Qc : Array Value → State → Outcome → State → Prop} {a : Array Value} {s : State} {mc ms : Nat} {free : Addr → Prop} (t : State) (h : MQ below Qc a s mc ms free t) : MZ th below Qc a s mc ms free t := by
  obtain ⟨o, h1, h2, h3, L, ⟨h4, h5, h6⟩, h7⟩ := h
  exact ⟨o, h1, h2, h3, Or.inl h4, L, h5, h6, h7⟩
theorem MQ_of {below : List Frame} {Qc : Array Value → State → Outcome → State → Prop} {a : Array Value} {s : State} {mc ms : Nat} {free : Addr → Prop} (t : State) (h : MZ false below Qc a s mc ms free t) : MQ below Qc a s mc ms free t := by
  obtain ⟨o, h1, h2, h3, h4, L, h5, h6, h7⟩ := h
  refine ⟨o, h1, h2, h3, L, ⟨?_, h5, h6⟩, h7⟩
  rcases h4 with h4 | h4
  · exact h4
  · cases h4
theorem W_size {p : Program} {l : Launch} {e : Env} {R : Room} {s : State} {m : MethodId} {args : Array Value} {below : List Frame} {meth : Method} {c : Code} {H : Heap} {locs : List Loc} {cells slots : Nat} {Q : State → Prop} {g : JFrame} (h : H.size ≤ s.heap.size + cells → W p l e R s m args below meth c H locs cells slots Q g) : W p l e R s m args below meth c H locs cells slots Q g :=
  fun T hT X => h (by rw [← hT]; exact X.heapSize) T hT X
theorem Ht_size {S : Sx} {p : Program} {R : Room} {s : State} {m : MethodId} {args : Array Value} {meth : Method} {c : Code} {G : Gx} (C : CX S p R s m args meth c G) {n : Nat} {σ : Hp} {H : Heap} {locs : List Loc} (hn : S.2.2.1 ≤ n) (hH : Ht G n σ s H locs) (h : H.size ≤ s.heap.size + (n - S.2.2.1)) : H.size = G.2.2 + n := by
  have h0 : s.heap.size = G.2.2 + S.2.2.1 := C.2.2.2.2.2.2.2.2.2.2.1
  have h1 := hH.2.1
  by_cases he : n = S.2.2.1
  · omega
  · have h2 := (hH.1 (n - 1) _ (wW_at (by omega))).lt
    dsimp only at h2
    omega
theorem Wx_iconst {S : Sx} {n pc : Nat} {lv st : List Value} {σ : Hp} {x : Int} {v : Int32} (hd : decode S.1.1 pc = .ok (.iconst x, 1)) (hv : Int32.ofInt x = v) (k : Wx S n (pc + 1) lv (.int v :: st) σ) : Wx S n pc lv st σ := by
  intro p l e R s m args below meth c G H locs ls C hn hH hl
  exact lv_iconst C.1 C.2.1 hd hv (k p l e R s m args below meth c G H locs ls C hn hH hl)
theorem Wx_bipush {S : Sx} {n pc : Nat} {lv st : List Value} {σ : Hp} {x : Int} {v : Int32} (hd : decode S.1.1 pc = .ok (.bipush x, 2)) (hv : (Int8.ofInt x).toInt32 = v) (k : Wx S n (pc + 2) lv (.int v :: st) σ) : Wx S n pc lv st σ := by
  intro p l e R s m args below meth c G H locs ls C hn hH hl
  exact lv_bipush C.1 C.2.1 hd hv (k p l e R s m args below meth c G H locs ls C hn hH hl)
theorem Wx_sipush {S : Sx} {n pc : Nat} {lv st : List Value} {σ : Hp} {x : Int} {v : Int32} (hd : decode S.1.1 pc = .ok (.sipush x, 3)) (hv : (Int16.ofInt x).toInt32 = v) (k : Wx S n (pc + 3) lv (.int v :: st) σ) : Wx S n pc lv st σ := by
  intro p l e R s m args below meth c G H locs ls C hn hH hl
  exact lv_sipush C.1 C.2.1 hd hv (k p l e R s m args below meth c G H locs ls C hn hH hl)
theorem Wx_lconst {S : Sx} {n pc : Nat} {lv st : List Value} {σ : Hp} {x : Fin 2} {v : Int64} (hd : decode S.1.1 pc = .ok (.lconst x, 1)) (hv : Int64.ofNat (x : Nat) = v) (k : Wx S n (pc + 1) lv (.long v :: st) σ) : Wx S n pc lv st σ := by
  intro p l e R s m args below meth c G H locs ls C hn hH hl
  exact lv_lconst C.1 C.2.1 hd hv (k p l e R s m args below meth c G H locs ls C hn hH hl)
theorem Wx_null {S : Sx} {n pc : Nat} {lv st : List Value} {σ : Hp}  (hd : decode S.1.1 pc = .ok (.aconst_null, 1)) (k : Wx S n (pc + 1) lv (.null :: st) σ) : Wx S n pc lv st σ := by
  intro p l e R s m args below meth c G H locs ls C hn hH hl
  exact lv_null C.1 C.2.1 hd (k p l e R s m args below meth c G H locs ls C hn hH hl)
theorem Wx_ldc {S : Sx} {n pc : Nat} {lv st : List Value} {σ : Hp} {x : Nat} {v : Int32} (hd : decode S.1.1 pc = .ok (.ldc x, 2)) (hc : Cond.constant S.1.2.1 x v ∈ gw) (k : Wx S n (pc + 2) lv (.int v :: st) σ) : Wx S n pc lv st σ := by
  intro p l e R s m args below meth c G H locs ls C hn hH hl
  exact lv_ldc C.1 C.2.1 C.own (C.wd hc) hd (k p l e R s m args below meth c G H locs ls C hn hH hl)
theorem Wx_ldcw {S : Sx} {n pc : Nat} {lv st : List Value} {σ : Hp} {x : Nat} {v : Int32} (hd : decode S.1.1 pc = .ok (.ldc_w x, 3)) (hc : Cond.constant S.1.2.1 x v ∈ gw) (k : Wx S n (pc + 3) lv (.int v :: st) σ) : Wx S n pc lv st σ := by
  intro p l e R s m args below meth c G H locs ls C hn hH hl
  exact lv_ldcw C.1 C.2.1 C.own (C.wd hc) hd (k p l e R s m args below meth c G H locs ls C hn hH hl)
theorem Wx_ldc2 {S : Sx} {n pc : Nat} {lv st : List Value} {σ : Hp} {x : Nat} {v : Int64} (hd : decode S.1.1 pc = .ok (.ldc2_w x, 3)) (hc : Cond.constantLong S.1.2.1 x v ∈ gw) (k : Wx S n (pc + 3) lv (.long v :: st) σ) : Wx S n pc lv st σ := by
  intro p l e R s m args below meth c G H locs ls C hn hH hl
  exact lv_ldc2 C.1 C.2.1 C.own (C.wd hc) hd (k p l e R s m args below meth c G H locs ls C hn hH hl)
theorem Wx_iadd {S : Sx} {n pc : Nat} {lv st : List Value} {σ : Hp} {x y : Int32} (hd : decode S.1.1 pc = .ok (.iadd, 1)) (k : Wx S n (pc + 1) lv (.int (x + y) :: st) σ) : Wx S n pc lv (.int y :: .int x :: st) σ := by
  intro p l e R s m args below meth c G H locs ls C hn hH hl
  exact lv_iadd C.1 C.2.1 hd (k p l e R s m args below meth c G H locs ls C hn hH hl)
theorem Wx_isub {S : Sx} {n pc : Nat} {lv st : List Value} {σ : Hp} {x y : Int32} (hd : decode S.1.1 pc = .ok (.isub, 1)) (k : Wx S n (pc + 1) lv (.int (x - y) :: st) σ) : Wx S n pc lv (.int y :: .int x :: st) σ := by
  intro p l e R s m args below meth c G H locs ls C hn hH hl
  exact lv_isub C.1 C.2.1 hd (k p l e R s m args below meth c G H locs ls C hn hH hl)
theorem Wx_imul {S : Sx} {n pc : Nat} {lv st : List Value} {σ : Hp} {x y : Int32} (hd : decode S.1.1 pc = .ok (.imul, 1)) (k : Wx S n (pc + 1) lv (.int (x * y) :: st) σ) : Wx S n pc lv (.int y :: .int x :: st) σ := by
  intro p l e R s m args below meth c G H locs ls C hn hH hl
  exact lv_imul C.1 C.2.1 hd (k p l e R s m args below meth c G H locs ls C hn hH hl)
theorem Wx_iand {S : Sx} {n pc : Nat} {lv st : List Value} {σ : Hp} {x y : Int32} (hd : decode S.1.1 pc = .ok (.iand, 1)) (k : Wx S n (pc + 1) lv (.int (x &&& y) :: st) σ) : Wx S n pc lv (.int y :: .int x :: st) σ := by
  intro p l e R s m args below meth c G H locs ls C hn hH hl
  exact lv_iand C.1 C.2.1 hd (k p l e R s m args below meth c G H locs ls C hn hH hl)
theorem Wx_ior {S : Sx} {n pc : Nat} {lv st : List Value} {σ : Hp} {x y : Int32} (hd : decode S.1.1 pc = .ok (.ior, 1)) (k : Wx S n (pc + 1) lv (.int (x ||| y) :: st) σ) : Wx S n pc lv (.int y :: .int x :: st) σ := by
  intro p l e R s m args below meth c G H locs ls C hn hH hl
  exact lv_ior C.1 C.2.1 hd (k p l e R s m args below meth c G H locs ls C hn hH hl)
theorem Wx_ixor {S : Sx} {n pc : Nat} {lv st : List Value} {σ : Hp} {x y : Int32} (hd : decode S.1.1 pc = .ok (.ixor, 1)) (k : Wx S n (pc + 1) lv (.int (x ^^^ y) :: st) σ) : Wx S n pc lv (.int y :: .int x :: st) σ := by
  intro p l e R s m args below meth c G H locs ls C hn hH hl
  exact lv_ixor C.1 C.2.1 hd (k p l e R s m args below meth c G H locs ls C hn hH hl)
theorem Wx_ishl {S : Sx} {n pc : Nat} {lv st : List Value} {σ : Hp} {x y : Int32} (hd : decode S.1.1 pc = .ok (.ishl, 1)) (k : Wx S n (pc + 1) lv (.int (x <<< (y &&& 31)) :: st) σ) : Wx S n pc lv (.int y :: .int x :: st) σ := by
  intro p l e R s m args below meth c G H locs ls C hn hH hl
  exact lv_ishl C.1 C.2.1 hd (k p l e R s m args below meth c G H locs ls C hn hH hl)
theorem Wx_ishr {S : Sx} {n pc : Nat} {lv st : List Value} {σ : Hp} {x y : Int32} (hd : decode S.1.1 pc = .ok (.ishr, 1)) (k : Wx S n (pc + 1) lv (.int (x >>> (y &&& 31)) :: st) σ) : Wx S n pc lv (.int y :: .int x :: st) σ := by
  intro p l e R s m args below meth c G H locs ls C hn hH hl
  exact lv_ishr C.1 C.2.1 hd (k p l e R s m args below meth c G H locs ls C hn hH hl)
theorem Wx_iushr {S : Sx} {n pc : Nat} {lv st : List Value} {σ : Hp} {x y : Int32} (hd : decode S.1.1 pc = .ok (.iushr, 1)) (k : Wx S n (pc + 1) lv (.int ((x.toUInt32 >>> (y.toUInt32 &&& Int32.toUInt32 31)).toInt32) :: st) σ) : Wx S n pc lv (.int y :: .int x :: st) σ := by
  intro p l e R s m args below meth c G H locs ls C hn hH hl
  exact lv_iushr C.1 C.2.1 hd rfl (k p l e R s m args below meth c G H locs ls C hn hH hl)
theorem Wx_idiv {S : Sx} {n pc : Nat} {lv st : List Value} {σ : Hp} {x y : Int32} (hd : decode S.1.1 pc = .ok (.idiv, 1)) (hne : ¬ y = 0) (k : Wx S n (pc + 1) lv (.int (x / y) :: st) σ) : Wx S n pc lv (.int y :: .int x :: st) σ := by
  intro p l e R s m args below meth c G H locs ls C hn hH hl
  exact lv_idiv C.1 C.2.1 hd hne (k p l e R s m args below meth c G H locs ls C hn hH hl)
theorem Wx_irem {S : Sx} {n pc : Nat} {lv st : List Value} {σ : Hp} {x y : Int32} (hd : decode S.1.1 pc = .ok (.irem, 1)) (hne : ¬ y = 0) (k : Wx S n (pc + 1) lv (.int (x - x / y * y) :: st) σ) : Wx S n pc lv (.int y :: .int x :: st) σ := by
  intro p l e R s m args below meth c G H locs ls C hn hH hl
  exact lv_irem C.1 C.2.1 hd hne (k p l e R s m args below meth c G H locs ls C hn hH hl)
theorem Wx_ladd {S : Sx} {n pc : Nat} {lv st : List Value} {σ : Hp} {x y : Int64} (hd : decode S.1.1 pc = .ok (.ladd, 1)) (k : Wx S n (pc + 1) lv (.long (x + y) :: st) σ) : Wx S n pc lv (.long y :: .long x :: st) σ := by
  intro p l e R s m args below meth c G H locs ls C hn hH hl
  exact lv_ladd C.1 C.2.1 hd (k p l e R s m args below meth c G H locs ls C hn hH hl)
theorem Wx_lsub {S : Sx} {n pc : Nat} {lv st : List Value} {σ : Hp} {x y : Int64} (hd : decode S.1.1 pc = .ok (.lsub, 1)) (k : Wx S n (pc + 1) lv (.long (x - y) :: st) σ) : Wx S n pc lv (.long y :: .long x :: st) σ := by
  intro p l e R s m args below meth c G H locs ls C hn hH hl
  exact lv_lsub C.1 C.2.1 hd (k p l e R s m args below meth c G H locs ls C hn hH hl)
theorem Wx_lmul {S : Sx} {n pc : Nat} {lv st : List Value} {σ : Hp} {x y : Int64} (hd : decode S.1.1 pc = .ok (.lmul, 1)) (k : Wx S n (pc + 1) lv (.long (x * y) :: st) σ) : Wx S n pc lv (.long y :: .long x :: st) σ := by
  intro p l e R s m args below meth c G H locs ls C hn hH hl
  exact lv_lmul C.1 C.2.1 hd (k p l e R s m args below meth c G H locs ls C hn hH hl)
theorem Wx_land {S : Sx} {n pc : Nat} {lv st : List Value} {σ : Hp} {x y : Int64} (hd : decode S.1.1 pc = .ok (.land, 1)) (k : Wx S n (pc + 1) lv (.long (x &&& y) :: st) σ) : Wx S n pc lv (.long y :: .long x :: st) σ := by
  intro p l e R s m args below meth c G H locs ls C hn hH hl
  exact lv_land C.1 C.2.1 hd (k p l e R s m args below meth c G H locs ls C hn hH hl)
theorem Wx_lor {S : Sx} {n pc : Nat} {lv st : List Value} {σ : Hp} {x y : Int64} (hd : decode S.1.1 pc = .ok (.lor, 1)) (k : Wx S n (pc + 1) lv (.long (x ||| y) :: st) σ) : Wx S n pc lv (.long y :: .long x :: st) σ := by
  intro p l e R s m args below meth c G H locs ls C hn hH hl
  exact lv_lor C.1 C.2.1 hd (k p l e R s m args below meth c G H locs ls C hn hH hl)
theorem Wx_lxor {S : Sx} {n pc : Nat} {lv st : List Value} {σ : Hp} {x y : Int64} (hd : decode S.1.1 pc = .ok (.lxor, 1)) (k : Wx S n (pc + 1) lv (.long (x ^^^ y) :: st) σ) : Wx S n pc lv (.long y :: .long x :: st) σ := by
  intro p l e R s m args below meth c G H locs ls C hn hH hl
  exact lv_lxor C.1 C.2.1 hd (k p l e R s m args below meth c G H locs ls C hn hH hl)
theorem Wx_ldiv {S : Sx} {n pc : Nat} {lv st : List Value} {σ : Hp} {x y : Int64} (hd : decode S.1.1 pc = .ok (.ldiv, 1)) (hne : ¬ y = 0) (k : Wx S n (pc + 1) lv (.long (x / y) :: st) σ) : Wx S n pc lv (.long y :: .long x :: st) σ := by
  intro p l e R s m args below meth c G H locs ls C hn hH hl
  exact lv_ldiv C.1 C.2.1 hd hne (k p l e R s m args below meth c G H locs ls C hn hH hl)
theorem Wx_lrem {S : Sx} {n pc : Nat} {lv st : List Value} {σ : Hp} {x y : Int64} (hd : decode S.1.1 pc = .ok (.lrem, 1)) (hne : ¬ y = 0) (k : Wx S n (pc + 1) lv (.long (x - x / y * y) :: st) σ) : Wx S n pc lv (.long y :: .long x :: st) σ := by
  intro p l e R s m args below meth c G H locs ls C hn hH hl
  exact lv_lrem C.1 C.2.1 hd hne (k p l e R s m args below meth c G H locs ls C hn hH hl)
theorem Wx_lshl {S : Sx} {n pc : Nat} {lv st : List Value} {σ : Hp} {x : Int64} {y : Int32} (hd : decode S.1.1 pc = .ok (.lshl, 1)) (k : Wx S n (pc + 1) lv (.long (x <<< (y.toInt64 &&& 63)) :: st) σ) : Wx S n pc lv (.int y :: .long x :: st) σ := by
  intro p l e R s m args below meth c G H locs ls C hn hH hl
  exact lv_lshl C.1 C.2.1 hd rfl (k p l e R s m args below meth c G H locs ls C hn hH hl)
theorem Wx_lshr {S : Sx} {n pc : Nat} {lv st : List Value} {σ : Hp} {x : Int64} {y : Int32} (hd : decode S.1.1 pc = .ok (.lshr, 1)) (k : Wx S n (pc + 1) lv (.long (x >>> (y.toInt64 &&& 63)) :: st) σ) : Wx S n pc lv (.int y :: .long x :: st) σ := by
  intro p l e R s m args below meth c G H locs ls C hn hH hl
  exact lv_lshr C.1 C.2.1 hd rfl (k p l e R s m args below meth c G H locs ls C hn hH hl)
theorem Wx_lushr {S : Sx} {n pc : Nat} {lv st : List Value} {σ : Hp} {x : Int64} {y : Int32} (hd : decode S.1.1 pc = .ok (.lushr, 1)) (k : Wx S n (pc + 1) lv (.long ((x.toUInt64 >>> (y.toInt64.toUInt64 &&& Int64.toUInt64 63)).toInt64) :: st) σ) : Wx S n pc lv (.int y :: .long x :: st) σ := by
  intro p l e R s m args below meth c G H locs ls C hn hH hl
  exact lv_lushr C.1 C.2.1 hd rfl (k p l e R s m args below meth c G H locs ls C hn hH hl)
theorem Wx_lcmp {S : Sx} {n pc : Nat} {lv st : List Value} {σ : Hp} {x y : Int64} (hd : decode S.1.1 pc = .ok (.lcmp, 1)) (k : Wx S n (pc + 1) lv (.int (lg_cmp x y) :: st) σ) : Wx S n pc lv (.long y :: .long x :: st) σ := by
  intro p l e R s m args below meth c G H locs ls C hn hH hl
  exact W.lcmp C.1 C.2.1 hd (k p l e R s m args below meth c G H locs ls C hn hH hl)
theorem Wx_i2l {S : Sx} {n pc : Nat} {lv st : List Value} {σ : Hp} {x : Int32} (hd : decode S.1.1 pc = .ok (.i2l, 1)) (k : Wx S n (pc + 1) lv (.long x.toInt64 :: st) σ) : Wx S n pc lv (.int x :: st) σ := by
  intro p l e R s m args below meth c G H locs ls C hn hH hl
  exact lv_i2l C.1 C.2.1 hd rfl (k p l e R s m args below meth c G H locs ls C hn hH hl)
theorem Wx_l2i {S : Sx} {n pc : Nat} {lv st : List Value} {σ : Hp} {x : Int64} (hd : decode S.1.1 pc = .ok (.l2i, 1)) (k : Wx S n (pc + 1) lv (.int x.toInt32 :: st) σ) : Wx S n pc lv (.long x :: st) σ := by
  intro p l e R s m args below meth c G H locs ls C hn hH hl
  exact lv_l2i C.1 C.2.1 hd rfl (k p l e R s m args below meth c G H locs ls C hn hH hl)
theorem Wx_i2b {S : Sx} {n pc : Nat} {lv st : List Value} {σ : Hp} {x : Int32} (hd : decode S.1.1 pc = .ok (.i2b, 1)) (k : Wx S n (pc + 1) lv (.int x.toInt8.toInt32 :: st) σ) : Wx S n pc lv (.int x :: st) σ := by
  intro p l e R s m args below meth c G H locs ls C hn hH hl
  exact lv_i2b C.1 C.2.1 hd rfl (k p l e R s m args below meth c G H locs ls C hn hH hl)
theorem Wx_dup {S : Sx} {n pc : Nat} {lv st : List Value} {σ : Hp} {v : Value} (hd : decode S.1.1 pc = .ok (.dup, 1)) (hv : v.category = 1) (k : Wx S n (pc + 1) lv (v :: v :: st) σ) : Wx S n pc lv (v :: st) σ := by
  intro p l e R s m args below meth c G H locs ls C hn hH hl
  exact lv_dup C.1 C.2.1 hd ((cv_cat _ v).trans hv) (k p l e R s m args below meth c G H locs ls C hn hH hl)
theorem Wx_pop {S : Sx} {n pc : Nat} {lv st : List Value} {σ : Hp} {v : Value} (hd : decode S.1.1 pc = .ok (.pop, 1)) (hv : v.category = 1) (k : Wx S n (pc + 1) lv st σ) : Wx S n pc lv (v :: st) σ := by
  intro p l e R s m args below meth c G H locs ls C hn hH hl
  exact lv_pop C.1 C.2.1 hd ((cv_cat _ v).trans hv) (k p l e R s m args below meth c G H locs ls C hn hH hl)
theorem Wx_dup2 {S : Sx} {n pc : Nat} {lv st : List Value} {σ : Hp} {v w : Value} (hd : decode S.1.1 pc = .ok (.dup2, 1)) (hv : v.category = 1) (hw : w.category = 1) (k : Wx S n (pc + 1) lv (v :: w :: v :: w :: st) σ) : Wx S n pc lv (v :: w :: st) σ := by
  intro p l e R s m args below meth c G H locs ls C hn hH hl
  exact lv_dup2_11 C.1 C.2.1 hd ((cv_cat _ v).trans hv) ((cv_cat _ w).trans hw) (k p l e R s m args below meth c G H locs ls C hn hH hl)
theorem Wx_iload0 {S : Sx} {n pc : Nat} {st : List Value} {σ : Hp} {tl : List Value} {x : Int32} (hd : decode S.1.1 pc = .ok (.iload_n 0, 1)) (k : Wx S n (pc + 1) (.int x :: tl) (.int x :: st) σ) : Wx S n pc (.int x :: tl) st σ := by
  intro p l e R s m args below meth c G H locs ls C hn hH hl
  exact lv_iload_n C.1 C.2.1 hd rfl (lvx_at hl (i := 0) rfl rfl) (k p l e R s m args below meth c G H locs ls C hn hH hl)
theorem Wx_lload0 {S : Sx} {n pc : Nat} {st : List Value} {σ : Hp} {tl : List Value} {x : Int64} (hd : decode S.1.1 pc = .ok (.lload_n 0, 1)) (k : Wx S n (pc + 1) (.long x :: tl) (.long x :: st) σ) : Wx S n pc (.long x :: tl) st σ := by
  intro p l e R s m args below meth c G H locs ls C hn hH hl
  exact lv_lload_n C.1 C.2.1 hd rfl (lvx_at hl (i := 0) rfl rfl) (k p l e R s m args below meth c G H locs ls C hn hH hl)
theorem Wx_aload0 {S : Sx} {n pc : Nat} {st : List Value} {σ : Hp} {tl : List Value} {x : Nat} (hd : decode S.1.1 pc = .ok (.aload_n 0, 1)) (k : Wx S n (pc + 1) (.ref x :: tl) (.ref x :: st) σ) : Wx S n pc (.ref x :: tl) st σ := by
  intro p l e R s m args below meth c G H locs ls C hn hH hl
  exact lv_aload_n C.1 C.2.1 hd rfl (lvx_at hl (i := 0) rfl rfl) (k p l e R s m args below meth c G H locs ls C hn hH hl)
theorem Wx_iload1 {S : Sx} {n pc : Nat} {st : List Value} {σ : Hp} {a0 : Value} {tl : List Value} {x : Int32} (hd : decode S.1.1 pc = .ok (.iload_n 1, 1)) (k : Wx S n (pc + 1) (a0 :: .int x :: tl) (.int x :: st) σ) : Wx S n pc (a0 :: .int x :: tl) st σ := by
  intro p l e R s m args below meth c G H locs ls C hn hH hl
  exact lv_iload_n C.1 C.2.1 hd rfl (lvx_at hl (i := 1) rfl rfl) (k p l e R s m args below meth c G H locs ls C hn hH hl)
theorem Wx_lload1 {S : Sx} {n pc : Nat} {st : List Value} {σ : Hp} {a0 : Value} {tl : List Value} {x : Int64} (hd : decode S.1.1 pc = .ok (.lload_n 1, 1)) (k : Wx S n (pc + 1) (a0 :: .long x :: tl) (.long x :: st) σ) : Wx S n pc (a0 :: .long x :: tl) st σ := by
  intro p l e R s m args below meth c G H locs ls C hn hH hl
  exact lv_lload_n C.1 C.2.1 hd rfl (lvx_at hl (i := 1) rfl rfl) (k p l e R s m args below meth c G H locs ls C hn hH hl)
theorem Wx_aload1 {S : Sx} {n pc : Nat} {st : List Value} {σ : Hp} {a0 : Value} {tl : List Value} {x : Nat} (hd : decode S.1.1 pc = .ok (.aload_n 1, 1)) (k : Wx S n (pc + 1) (a0 :: .ref x :: tl) (.ref x :: st) σ) : Wx S n pc (a0 :: .ref x :: tl) st σ := by
  intro p l e R s m args below meth c G H locs ls C hn hH hl
  exact lv_aload_n C.1 C.2.1 hd rfl (lvx_at hl (i := 1) rfl rfl) (k p l e R s m args below meth c G H locs ls C hn hH hl)
theorem Wx_iload2 {S : Sx} {n pc : Nat} {st : List Value} {σ : Hp} {a0 a1 : Value} {tl : List Value} {x : Int32} (hd : decode S.1.1 pc = .ok (.iload_n 2, 1)) (k : Wx S n (pc + 1) (a0 :: a1 :: .int x :: tl) (.int x :: st) σ) : Wx S n pc (a0 :: a1 :: .int x :: tl) st σ := by
  intro p l e R s m args below meth c G H locs ls C hn hH hl
  exact lv_iload_n C.1 C.2.1 hd rfl (lvx_at hl (i := 2) rfl rfl) (k p l e R s m args below meth c G H locs ls C hn hH hl)
theorem Wx_lload2 {S : Sx} {n pc : Nat} {st : List Value} {σ : Hp} {a0 a1 : Value} {tl : List Value} {x : Int64} (hd : decode S.1.1 pc = .ok (.lload_n 2, 1)) (k : Wx S n (pc + 1) (a0 :: a1 :: .long x :: tl) (.long x :: st) σ) : Wx S n pc (a0 :: a1 :: .long x :: tl) st σ := by
  intro p l e R s m args below meth c G H locs ls C hn hH hl
  exact lv_lload_n C.1 C.2.1 hd rfl (lvx_at hl (i := 2) rfl rfl) (k p l e R s m args below meth c G H locs ls C hn hH hl)
theorem Wx_aload2 {S : Sx} {n pc : Nat} {st : List Value} {σ : Hp} {a0 a1 : Value} {tl : List Value} {x : Nat} (hd : decode S.1.1 pc = .ok (.aload_n 2, 1)) (k : Wx S n (pc + 1) (a0 :: a1 :: .ref x :: tl) (.ref x :: st) σ) : Wx S n pc (a0 :: a1 :: .ref x :: tl) st σ := by
  intro p l e R s m args below meth c G H locs ls C hn hH hl
  exact lv_aload_n C.1 C.2.1 hd rfl (lvx_at hl (i := 2) rfl rfl) (k p l e R s m args below meth c G H locs ls C hn hH hl)
theorem Wx_iload3 {S : Sx} {n pc : Nat} {st : List Value} {σ : Hp} {a0 a1 a2 : Value} {tl : List Value} {x : Int32} (hd : decode S.1.1 pc = .ok (.iload_n 3, 1)) (k : Wx S n (pc + 1) (a0 :: a1 :: a2 :: .int x :: tl) (.int x :: st) σ) : Wx S n pc (a0 :: a1 :: a2 :: .int x :: tl) st σ := by
  intro p l e R s m args below meth c G H locs ls C hn hH hl
  exact lv_iload_n C.1 C.2.1 hd rfl (lvx_at hl (i := 3) rfl rfl) (k p l e R s m args below meth c G H locs ls C hn hH hl)
theorem Wx_lload3 {S : Sx} {n pc : Nat} {st : List Value} {σ : Hp} {a0 a1 a2 : Value} {tl : List Value} {x : Int64} (hd : decode S.1.1 pc = .ok (.lload_n 3, 1)) (k : Wx S n (pc + 1) (a0 :: a1 :: a2 :: .long x :: tl) (.long x :: st) σ) : Wx S n pc (a0 :: a1 :: a2 :: .long x :: tl) st σ := by
  intro p l e R s m args below meth c G H locs ls C hn hH hl
  exact lv_lload_n C.1 C.2.1 hd rfl (lvx_at hl (i := 3) rfl rfl) (k p l e R s m args below meth c G H locs ls C hn hH hl)
theorem Wx_aload3 {S : Sx} {n pc : Nat} {st : List Value} {σ : Hp} {a0 a1 a2 : Value} {tl : List Value} {x : Nat} (hd : decode S.1.1 pc = .ok (.aload_n 3, 1)) (k : Wx S n (pc + 1) (a0 :: a1 :: a2 :: .ref x :: tl) (.ref x :: st) σ) : Wx S n pc (a0 :: a1 :: a2 :: .ref x :: tl) st σ := by
  intro p l e R s m args below meth c G H locs ls C hn hH hl
  exact lv_aload_n C.1 C.2.1 hd rfl (lvx_at hl (i := 3) rfl rfl) (k p l e R s m args below meth c G H locs ls C hn hH hl)
theorem Wx_iload4 {S : Sx} {n pc : Nat} {st : List Value} {σ : Hp} {a0 a1 a2 a3 : Value} {tl : List Value} {x : Int32} (hd : decode S.1.1 pc = .ok (.iload 4, 2)) (k : Wx S n (pc + 2) (a0 :: a1 :: a2 :: a3 :: .int x :: tl) (.int x :: st) σ) : Wx S n pc (a0 :: a1 :: a2 :: a3 :: .int x :: tl) st σ := by
  intro p l e R s m args below meth c G H locs ls C hn hH hl
  exact lv_iload C.1 C.2.1 hd (lvx_at hl (i := 4) rfl rfl) (k p l e R s m args below meth c G H locs ls C hn hH hl)
theorem Wx_lload4 {S : Sx} {n pc : Nat} {st : List Value} {σ : Hp} {a0 a1 a2 a3 : Value} {tl : List Value} {x : Int64} (hd : decode S.1.1 pc = .ok (.lload 4, 2)) (k : Wx S n (pc + 2) (a0 :: a1 :: a2 :: a3 :: .long x :: tl) (.long x :: st) σ) : Wx S n pc (a0 :: a1 :: a2 :: a3 :: .long x :: tl) st σ := by
  intro p l e R s m args below meth c G H locs ls C hn hH hl
  exact lv_lload C.1 C.2.1 hd (lvx_at hl (i := 4) rfl rfl) (k p l e R s m args below meth c G H locs ls C hn hH hl)
theorem Wx_iload5 {S : Sx} {n pc : Nat} {st : List Value} {σ : Hp} {a0 a1 a2 a3 a4 : Value} {tl : List Value} {x : Int32} (hd : decode S.1.1 pc = .ok (.iload 5, 2)) (k : Wx S n (pc + 2) (a0 :: a1 :: a2 :: a3 :: a4 :: .int x :: tl) (.int x :: st) σ) : Wx S n pc (a0 :: a1 :: a2 :: a3 :: a4 :: .int x :: tl) st σ := by
  intro p l e R s m args below meth c G H locs ls C hn hH hl
  exact lv_iload C.1 C.2.1 hd (lvx_at hl (i := 5) rfl rfl) (k p l e R s m args below meth c G H locs ls C hn hH hl)
theorem Wx_lload5 {S : Sx} {n pc : Nat} {st : List Value} {σ : Hp} {a0 a1 a2 a3 a4 : Value} {tl : List Value} {x : Int64} (hd : decode S.1.1 pc = .ok (.lload 5, 2)) (k : Wx S n (pc + 2) (a0 :: a1 :: a2 :: a3 :: a4 :: .long x :: tl) (.long x :: st) σ) : Wx S n pc (a0 :: a1 :: a2 :: a3 :: a4 :: .long x :: tl) st σ := by
  intro p l e R s m args below meth c G H locs ls C hn hH hl
  exact lv_lload C.1 C.2.1 hd (lvx_at hl (i := 5) rfl rfl) (k p l e R s m args below meth c G H locs ls C hn hH hl)
theorem Wx_iload6 {S : Sx} {n pc : Nat} {st : List Value} {σ : Hp} {a0 a1 a2 a3 a4 a5 : Value} {tl : List Value} {x : Int32} (hd : decode S.1.1 pc = .ok (.iload 6, 2)) (k : Wx S n (pc + 2) (a0 :: a1 :: a2 :: a3 :: a4 :: a5 :: .int x :: tl) (.int x :: st) σ) : Wx S n pc (a0 :: a1 :: a2 :: a3 :: a4 :: a5 :: .int x :: tl) st σ := by
  intro p l e R s m args below meth c G H locs ls C hn hH hl
  exact lv_iload C.1 C.2.1 hd (lvx_at hl (i := 6) rfl rfl) (k p l e R s m args below meth c G H locs ls C hn hH hl)
theorem Wx_lload6 {S : Sx} {n pc : Nat} {st : List Value} {σ : Hp} {a0 a1 a2 a3 a4 a5 : Value} {tl : List Value} {x : Int64} (hd : decode S.1.1 pc = .ok (.lload 6, 2)) (k : Wx S n (pc + 2) (a0 :: a1 :: a2 :: a3 :: a4 :: a5 :: .long x :: tl) (.long x :: st) σ) : Wx S n pc (a0 :: a1 :: a2 :: a3 :: a4 :: a5 :: .long x :: tl) st σ := by
  intro p l e R s m args below meth c G H locs ls C hn hH hl
  exact lv_lload C.1 C.2.1 hd (lvx_at hl (i := 6) rfl rfl) (k p l e R s m args below meth c G H locs ls C hn hH hl)
theorem Wx_iload7 {S : Sx} {n pc : Nat} {st : List Value} {σ : Hp} {a0 a1 a2 a3 a4 a5 a6 : Value} {tl : List Value} {x : Int32} (hd : decode S.1.1 pc = .ok (.iload 7, 2)) (k : Wx S n (pc + 2) (a0 :: a1 :: a2 :: a3 :: a4 :: a5 :: a6 :: .int x :: tl) (.int x :: st) σ) : Wx S n pc (a0 :: a1 :: a2 :: a3 :: a4 :: a5 :: a6 :: .int x :: tl) st σ := by
  intro p l e R s m args below meth c G H locs ls C hn hH hl
  exact lv_iload C.1 C.2.1 hd (lvx_at hl (i := 7) rfl rfl) (k p l e R s m args below meth c G H locs ls C hn hH hl)
theorem Wx_lload7 {S : Sx} {n pc : Nat} {st : List Value} {σ : Hp} {a0 a1 a2 a3 a4 a5 a6 : Value} {tl : List Value} {x : Int64} (hd : decode S.1.1 pc = .ok (.lload 7, 2)) (k : Wx S n (pc + 2) (a0 :: a1 :: a2 :: a3 :: a4 :: a5 :: a6 :: .long x :: tl) (.long x :: st) σ) : Wx S n pc (a0 :: a1 :: a2 :: a3 :: a4 :: a5 :: a6 :: .long x :: tl) st σ := by
  intro p l e R s m args below meth c G H locs ls C hn hH hl
  exact lv_lload C.1 C.2.1 hd (lvx_at hl (i := 7) rfl rfl) (k p l e R s m args below meth c G H locs ls C hn hH hl)
theorem Wx_iload8 {S : Sx} {n pc : Nat} {st : List Value} {σ : Hp} {a0 a1 a2 a3 a4 a5 a6 a7 : Value} {tl : List Value} {x : Int32} (hd : decode S.1.1 pc = .ok (.iload 8, 2)) (k : Wx S n (pc + 2) (a0 :: a1 :: a2 :: a3 :: a4 :: a5 :: a6 :: a7 :: .int x :: tl) (.int x :: st) σ) : Wx S n pc (a0 :: a1 :: a2 :: a3 :: a4 :: a5 :: a6 :: a7 :: .int x :: tl) st σ := by
  intro p l e R s m args below meth c G H locs ls C hn hH hl
  exact lv_iload C.1 C.2.1 hd (lvx_at hl (i := 8) rfl rfl) (k p l e R s m args below meth c G H locs ls C hn hH hl)
theorem Wx_lload8 {S : Sx} {n pc : Nat} {st : List Value} {σ : Hp} {a0 a1 a2 a3 a4 a5 a6 a7 : Value} {tl : List Value} {x : Int64} (hd : decode S.1.1 pc = .ok (.lload 8, 2)) (k : Wx S n (pc + 2) (a0 :: a1 :: a2 :: a3 :: a4 :: a5 :: a6 :: a7 :: .long x :: tl) (.long x :: st) σ) : Wx S n pc (a0 :: a1 :: a2 :: a3 :: a4 :: a5 :: a6 :: a7 :: .long x :: tl) st σ := by
  intro p l e R s m args below meth c G H locs ls C hn hH hl
  exact lv_lload C.1 C.2.1 hd (lvx_at hl (i := 8) rfl rfl) (k p l e R s m args below meth c G H locs ls C hn hH hl)
theorem Wx_iload9 {S : Sx} {n pc : Nat} {st : List Value} {σ : Hp} {a0 a1 a2 a3 a4 a5 a6 a7 a8 : Value} {tl : List Value} {x : Int32} (hd : decode S.1.1 pc = .ok (.iload 9, 2)) (k : Wx S n (pc + 2) (a0 :: a1 :: a2 :: a3 :: a4 :: a5 :: a6 :: a7 :: a8 :: .int x :: tl) (.int x :: st) σ) : Wx S n pc (a0 :: a1 :: a2 :: a3 :: a4 :: a5 :: a6 :: a7 :: a8 :: .int x :: tl) st σ := by
  intro p l e R s m args below meth c G H locs ls C hn hH hl
  exact lv_iload C.1 C.2.1 hd (lvx_at hl (i := 9) rfl rfl) (k p l e R s m args below meth c G H locs ls C hn hH hl)
theorem Wx_lload9 {S : Sx} {n pc : Nat} {st : List Value} {σ : Hp} {a0 a1 a2 a3 a4 a5 a6 a7 a8 : Value} {tl : List Value} {x : Int64} (hd : decode S.1.1 pc = .ok (.lload 9, 2)) (k : Wx S n (pc + 2) (a0 :: a1 :: a2 :: a3 :: a4 :: a5 :: a6 :: a7 :: a8 :: .long x :: tl) (.long x :: st) σ) : Wx S n pc (a0 :: a1 :: a2 :: a3 :: a4 :: a5 :: a6 :: a7 :: a8 :: .long x :: tl) st σ := by
  intro p l e R s m args below meth c G H locs ls C hn hH hl
  exact lv_lload C.1 C.2.1 hd (lvx_at hl (i := 9) rfl rfl) (k p l e R s m args below meth c G H locs ls C hn hH hl)
theorem Wx_istore0 {S : Sx} {n pc : Nat} {st : List Value} {σ : Hp} {tl : List Value} {w : Value} {x : Int32} (hd : decode S.1.1 pc = .ok (.istore_n 0, 1)) (hn : 0 < S.1.2.2.2.1) (k : Wx S n (pc + 1) (.int x :: tl) st σ) : Wx S n pc (w :: tl) (.int x :: st) σ := by
  intro p l e R s m args below meth c G H locs ls C hn0 hH hl
  exact lv_istore_n C.1 C.2.1 hd rfl (lvx_has hl) hn rfl (fun ls' hl' => k p l e R s m args below meth c G H locs ls' C hn0 hH (lvx_set1 (i := 0) (w := .int x) hl (Or.inl rfl) hl'))
theorem Wx_lstore0 {S : Sx} {n pc : Nat} {st : List Value} {σ : Hp} {tl : List Value} {w w2 : Value} {x : Int64} (hd : decode S.1.1 pc = .ok (.lstore_n 0, 1)) (hn : 1 < S.1.2.2.2.1) (k : Wx S n (pc + 1) (.long x :: .retAddr 0 :: tl) st σ) : Wx S n pc (w :: w2 :: tl) (.long x :: st) σ := by
  intro p l e R s m args below meth c G H locs ls C hn0 hH hl
  exact lv_lstore_n C.1 C.2.1 hd rfl (lvx_has hl) hn rfl (fun ls' hl' => k p l e R s m args below meth c G H locs ls' C hn0 hH (lvx_set2 (i := 0) (w := .long x) hl (Or.inl rfl) hl'))
theorem Wx_astore0 {S : Sx} {n pc : Nat} {st : List Value} {σ : Hp} {tl : List Value} {w : Value} {x : Nat} (hd : decode S.1.1 pc = .ok (.astore_n 0, 1)) (hn : 0 < S.1.2.2.2.1) (k : Wx S n (pc + 1) (.ref x :: tl) st σ) : Wx S n pc (w :: tl) (.ref x :: st) σ := by
  intro p l e R s m args below meth c G H locs ls C hn0 hH hl
  exact lv_astore_n C.1 C.2.1 hd rfl (lvx_has hl) hn rfl (fun ls' hl' => k p l e R s m args below meth c G H locs ls' C hn0 hH (lvx_set1 (i := 0) (w := .ref x) hl (Or.inl rfl) hl'))
theorem Wx_istore1 {S : Sx} {n pc : Nat} {st : List Value} {σ : Hp} {a0 : Value} {tl : List Value} {w : Value} {x : Int32} (hd : decode S.1.1 pc = .ok (.istore_n 1, 1)) (hp : a0.category = 1) (hn : 1 < S.1.2.2.2.1) (k : Wx S n (pc + 1) (a0 :: .int x :: tl) st σ) : Wx S n pc (a0 :: w :: tl) (.int x :: st) σ := by
  intro p l e R s m args below meth c G H locs ls C hn0 hH hl
  exact lv_istore_n C.1 C.2.1 hd rfl (lvx_has hl) hn rfl (fun ls' hl' => k p l e R s m args below meth c G H locs ls' C hn0 hH (lvx_set1 (i := 1) (w := .int x) hl (Or.inr ⟨0, a0, rfl, rfl, hp⟩) hl'))
theorem Wx_lstore1 {S : Sx} {n pc : Nat} {st : List Value} {σ : Hp} {a0 : Value} {tl : List Value} {w w2 : Value} {x : Int64} (hd : decode S.1.1 pc = .ok (.lstore_n 1, 1)) (hp : a0.category = 1) (hn : 2 < S.1.2.2.2.1) (k : Wx S n (pc + 1) (a0 :: .long x :: .retAddr 0 :: tl) st σ) : Wx S n pc (a0 :: w :: w2 :: tl) (.long x :: st) σ := by
  intro p l e R s m args below meth c G H locs ls C hn0 hH hl
  exact lv_lstore_n C.1 C.2.1 hd rfl (lvx_has hl) hn rfl (fun ls' hl' => k p l e R s m args below meth c G H locs ls' C hn0 hH (lvx_set2 (i := 1) (w := .long x) hl (Or.inr ⟨0, a0, rfl, rfl, hp⟩) hl'))
theorem Wx_astore1 {S : Sx} {n pc : Nat} {st : List Value} {σ : Hp} {a0 : Value} {tl : List Value} {w : Value} {x : Nat} (hd : decode S.1.1 pc = .ok (.astore_n 1, 1)) (hp : a0.category = 1) (hn : 1 < S.1.2.2.2.1) (k : Wx S n (pc + 1) (a0 :: .ref x :: tl) st σ) : Wx S n pc (a0 :: w :: tl) (.ref x :: st) σ := by
  intro p l e R s m args below meth c G H locs ls C hn0 hH hl
  exact lv_astore_n C.1 C.2.1 hd rfl (lvx_has hl) hn rfl (fun ls' hl' => k p l e R s m args below meth c G H locs ls' C hn0 hH (lvx_set1 (i := 1) (w := .ref x) hl (Or.inr ⟨0, a0, rfl, rfl, hp⟩) hl'))
theorem Wx_istore2 {S : Sx} {n pc : Nat} {st : List Value} {σ : Hp} {a0 a1 : Value} {tl : List Value} {w : Value} {x : Int32} (hd : decode S.1.1 pc = .ok (.istore_n 2, 1)) (hp : a1.category = 1) (hn : 2 < S.1.2.2.2.1) (k : Wx S n (pc + 1) (a0 :: a1 :: .int x :: tl) st σ) : Wx S n pc (a0 :: a1 :: w :: tl) (.int x :: st) σ := by
  intro p l e R s m args below meth c G H locs ls C hn0 hH hl
  exact lv_istore_n C.1 C.2.1 hd rfl (lvx_has hl) hn rfl (fun ls' hl' => k p l e R s m args below meth c G H locs ls' C hn0 hH (lvx_set1 (i := 2) (w := .int x) hl (Or.inr ⟨1, a1, rfl, rfl, hp⟩) hl'))
theorem Wx_lstore2 {S : Sx} {n pc : Nat} {st : List Value} {σ : Hp} {a0 a1 : Value} {tl : List Value} {w w2 : Value} {x : Int64} (hd : decode S.1.1 pc = .ok (.lstore_n 2, 1)) (hp : a1.category = 1) (hn : 3 < S.1.2.2.2.1) (k : Wx S n (pc + 1) (a0 :: a1 :: .long x :: .retAddr 0 :: tl) st σ) : Wx S n pc (a0 :: a1 :: w :: w2 :: tl) (.long x :: st) σ := by
  intro p l e R s m args below meth c G H locs ls C hn0 hH hl
  exact lv_lstore_n C.1 C.2.1 hd rfl (lvx_has hl) hn rfl (fun ls' hl' => k p l e R s m args below meth c G H locs ls' C hn0 hH (lvx_set2 (i := 2) (w := .long x) hl (Or.inr ⟨1, a1, rfl, rfl, hp⟩) hl'))
theorem Wx_astore2 {S : Sx} {n pc : Nat} {st : List Value} {σ : Hp} {a0 a1 : Value} {tl : List Value} {w : Value} {x : Nat} (hd : decode S.1.1 pc = .ok (.astore_n 2, 1)) (hp : a1.category = 1) (hn : 2 < S.1.2.2.2.1) (k : Wx S n (pc + 1) (a0 :: a1 :: .ref x :: tl) st σ) : Wx S n pc (a0 :: a1 :: w :: tl) (.ref x :: st) σ := by
  intro p l e R s m args below meth c G H locs ls C hn0 hH hl
  exact lv_astore_n C.1 C.2.1 hd rfl (lvx_has hl) hn rfl (fun ls' hl' => k p l e R s m args below meth c G H locs ls' C hn0 hH (lvx_set1 (i := 2) (w := .ref x) hl (Or.inr ⟨1, a1, rfl, rfl, hp⟩) hl'))
theorem Wx_istore3 {S : Sx} {n pc : Nat} {st : List Value} {σ : Hp} {a0 a1 a2 : Value} {tl : List Value} {w : Value} {x : Int32} (hd : decode S.1.1 pc = .ok (.istore_n 3, 1)) (hp : a2.category = 1) (hn : 3 < S.1.2.2.2.1) (k : Wx S n (pc + 1) (a0 :: a1 :: a2 :: .int x :: tl) st σ) : Wx S n pc (a0 :: a1 :: a2 :: w :: tl) (.int x :: st) σ := by
  intro p l e R s m args below meth c G H locs ls C hn0 hH hl
  exact lv_istore_n C.1 C.2.1 hd rfl (lvx_has hl) hn rfl (fun ls' hl' => k p l e R s m args below meth c G H locs ls' C hn0 hH (lvx_set1 (i := 3) (w := .int x) hl (Or.inr ⟨2, a2, rfl, rfl, hp⟩) hl'))
theorem Wx_lstore3 {S : Sx} {n pc : Nat} {st : List Value} {σ : Hp} {a0 a1 a2 : Value} {tl : List Value} {w w2 : Value} {x : Int64} (hd : decode S.1.1 pc = .ok (.lstore_n 3, 1)) (hp : a2.category = 1) (hn : 4 < S.1.2.2.2.1) (k : Wx S n (pc + 1) (a0 :: a1 :: a2 :: .long x :: .retAddr 0 :: tl) st σ) : Wx S n pc (a0 :: a1 :: a2 :: w :: w2 :: tl) (.long x :: st) σ := by
  intro p l e R s m args below meth c G H locs ls C hn0 hH hl
  exact lv_lstore_n C.1 C.2.1 hd rfl (lvx_has hl) hn rfl (fun ls' hl' => k p l e R s m args below meth c G H locs ls' C hn0 hH (lvx_set2 (i := 3) (w := .long x) hl (Or.inr ⟨2, a2, rfl, rfl, hp⟩) hl'))
theorem Wx_astore3 {S : Sx} {n pc : Nat} {st : List Value} {σ : Hp} {a0 a1 a2 : Value} {tl : List Value} {w : Value} {x : Nat} (hd : decode S.1.1 pc = .ok (.astore_n 3, 1)) (hp : a2.category = 1) (hn : 3 < S.1.2.2.2.1) (k : Wx S n (pc + 1) (a0 :: a1 :: a2 :: .ref x :: tl) st σ) : Wx S n pc (a0 :: a1 :: a2 :: w :: tl) (.ref x :: st) σ := by
  intro p l e R s m args below meth c G H locs ls C hn0 hH hl
  exact lv_astore_n C.1 C.2.1 hd rfl (lvx_has hl) hn rfl (fun ls' hl' => k p l e R s m args below meth c G H locs ls' C hn0 hH (lvx_set1 (i := 3) (w := .ref x) hl (Or.inr ⟨2, a2, rfl, rfl, hp⟩) hl'))
theorem Wx_istore4 {S : Sx} {n pc : Nat} {st : List Value} {σ : Hp} {a0 a1 a2 a3 : Value} {tl : List Value} {w : Value} {x : Int32} (hd : decode S.1.1 pc = .ok (.istore 4, 2)) (hp : a3.category = 1) (hn : 4 < S.1.2.2.2.1) (k : Wx S n (pc + 2) (a0 :: a1 :: a2 :: a3 :: .int x :: tl) st σ) : Wx S n pc (a0 :: a1 :: a2 :: a3 :: w :: tl) (.int x :: st) σ := by
  intro p l e R s m args below meth c G H locs ls C hn0 hH hl
  exact lv_istore C.1 C.2.1 hd (lvx_has hl) hn rfl (fun ls' hl' => k p l e R s m args below meth c G H locs ls' C hn0 hH (lvx_set1 (i := 4) (w := .int x) hl (Or.inr ⟨3, a3, rfl, rfl, hp⟩) hl'))
theorem Wx_lstore4 {S : Sx} {n pc : Nat} {st : List Value} {σ : Hp} {a0 a1 a2 a3 : Value} {tl : List Value} {w w2 : Value} {x : Int64} (hd : decode S.1.1 pc = .ok (.lstore 4, 2)) (hp : a3.category = 1) (hn : 5 < S.1.2.2.2.1) (k : Wx S n (pc + 2) (a0 :: a1 :: a2 :: a3 :: .long x :: .retAddr 0 :: tl) st σ) : Wx S n pc (a0 :: a1 :: a2 :: a3 :: w :: w2 :: tl) (.long x :: st) σ := by
  intro p l e R s m args below meth c G H locs ls C hn0 hH hl
  exact lv_lstore C.1 C.2.1 hd (lvx_has hl) hn rfl (fun ls' hl' => k p l e R s m args below meth c G H locs ls' C hn0 hH (lvx_set2 (i := 4) (w := .long x) hl (Or.inr ⟨3, a3, rfl, rfl, hp⟩) hl'))
theorem Wx_istore5 {S : Sx} {n pc : Nat} {st : List Value} {σ : Hp} {a0 a1 a2 a3 a4 : Value} {tl : List Value} {w : Value} {x : Int32} (hd : decode S.1.1 pc = .ok (.istore 5, 2)) (hp : a4.category = 1) (hn : 5 < S.1.2.2.2.1) (k : Wx S n (pc + 2) (a0 :: a1 :: a2 :: a3 :: a4 :: .int x :: tl) st σ) : Wx S n pc (a0 :: a1 :: a2 :: a3 :: a4 :: w :: tl) (.int x :: st) σ := by
  intro p l e R s m args below meth c G H locs ls C hn0 hH hl
  exact lv_istore C.1 C.2.1 hd (lvx_has hl) hn rfl (fun ls' hl' => k p l e R s m args below meth c G H locs ls' C hn0 hH (lvx_set1 (i := 5) (w := .int x) hl (Or.inr ⟨4, a4, rfl, rfl, hp⟩) hl'))
theorem Wx_lstore5 {S : Sx} {n pc : Nat} {st : List Value} {σ : Hp} {a0 a1 a2 a3 a4 : Value} {tl : List Value} {w w2 : Value} {x : Int64} (hd : decode S.1.1 pc = .ok (.lstore 5, 2)) (hp : a4.category = 1) (hn : 6 < S.1.2.2.2.1) (k : Wx S n (pc + 2) (a0 :: a1 :: a2 :: a3 :: a4 :: .long x :: .retAddr 0 :: tl) st σ) : Wx S n pc (a0 :: a1 :: a2 :: a3 :: a4 :: w :: w2 :: tl) (.long x :: st) σ := by
  intro p l e R s m args below meth c G H locs ls C hn0 hH hl
  exact lv_lstore C.1 C.2.1 hd (lvx_has hl) hn rfl (fun ls' hl' => k p l e R s m args below meth c G H locs ls' C hn0 hH (lvx_set2 (i := 5) (w := .long x) hl (Or.inr ⟨4, a4, rfl, rfl, hp⟩) hl'))
theorem Wx_istore6 {S : Sx} {n pc : Nat} {st : List Value} {σ : Hp} {a0 a1 a2 a3 a4 a5 : Value} {tl : List Value} {w : Value} {x : Int32} (hd : decode S.1.1 pc = .ok (.istore 6, 2)) (hp : a5.category = 1) (hn : 6 < S.1.2.2.2.1) (k : Wx S n (pc + 2) (a0 :: a1 :: a2 :: a3 :: a4 :: a5 :: .int x :: tl) st σ) : Wx S n pc (a0 :: a1 :: a2 :: a3 :: a4 :: a5 :: w :: tl) (.int x :: st) σ := by
  intro p l e R s m args below meth c G H locs ls C hn0 hH hl
  exact lv_istore C.1 C.2.1 hd (lvx_has hl) hn rfl (fun ls' hl' => k p l e R s m args below meth c G H locs ls' C hn0 hH (lvx_set1 (i := 6) (w := .int x) hl (Or.inr ⟨5, a5, rfl, rfl, hp⟩) hl'))
theorem Wx_lstore6 {S : Sx} {n pc : Nat} {st : List Value} {σ : Hp} {a0 a1 a2 a3 a4 a5 : Value} {tl : List Value} {w w2 : Value} {x : Int64} (hd : decode S.1.1 pc = .ok (.lstore 6, 2)) (hp : a5.category = 1) (hn : 7 < S.1.2.2.2.1) (k : Wx S n (pc + 2) (a0 :: a1 :: a2 :: a3 :: a4 :: a5 :: .long x :: .retAddr 0 :: tl) st σ) : Wx S n pc (a0 :: a1 :: a2 :: a3 :: a4 :: a5 :: w :: w2 :: tl) (.long x :: st) σ := by
  intro p l e R s m args below meth c G H locs ls C hn0 hH hl
  exact lv_lstore C.1 C.2.1 hd (lvx_has hl) hn rfl (fun ls' hl' => k p l e R s m args below meth c G H locs ls' C hn0 hH (lvx_set2 (i := 6) (w := .long x) hl (Or.inr ⟨5, a5, rfl, rfl, hp⟩) hl'))
theorem Wx_istore7 {S : Sx} {n pc : Nat} {st : List Value} {σ : Hp} {a0 a1 a2 a3 a4 a5 a6 : Value} {tl : List Value} {w : Value} {x : Int32} (hd : decode S.1.1 pc = .ok (.istore 7, 2)) (hp : a6.category = 1) (hn : 7 < S.1.2.2.2.1) (k : Wx S n (pc + 2) (a0 :: a1 :: a2 :: a3 :: a4 :: a5 :: a6 :: .int x :: tl) st σ) : Wx S n pc (a0 :: a1 :: a2 :: a3 :: a4 :: a5 :: a6 :: w :: tl) (.int x :: st) σ := by
  intro p l e R s m args below meth c G H locs ls C hn0 hH hl
  exact lv_istore C.1 C.2.1 hd (lvx_has hl) hn rfl (fun ls' hl' => k p l e R s m args below meth c G H locs ls' C hn0 hH (lvx_set1 (i := 7) (w := .int x) hl (Or.inr ⟨6, a6, rfl, rfl, hp⟩) hl'))
theorem Wx_lstore7 {S : Sx} {n pc : Nat} {st : List Value} {σ : Hp} {a0 a1 a2 a3 a4 a5 a6 : Value} {tl : List Value} {w w2 : Value} {x : Int64} (hd : decode S.1.1 pc = .ok (.lstore 7, 2)) (hp : a6.category = 1) (hn : 8 < S.1.2.2.2.1) (k : Wx S n (pc + 2) (a0 :: a1 :: a2 :: a3 :: a4 :: a5 :: a6 :: .long x :: .retAddr 0 :: tl) st σ) : Wx S n pc (a0 :: a1 :: a2 :: a3 :: a4 :: a5 :: a6 :: w :: w2 :: tl) (.long x :: st) σ := by
  intro p l e R s m args below meth c G H locs ls C hn0 hH hl
  exact lv_lstore C.1 C.2.1 hd (lvx_has hl) hn rfl (fun ls' hl' => k p l e R s m args below meth c G H locs ls' C hn0 hH (lvx_set2 (i := 7) (w := .long x) hl (Or.inr ⟨6, a6, rfl, rfl, hp⟩) hl'))
theorem Wx_istore8 {S : Sx} {n pc : Nat} {st : List Value} {σ : Hp} {a0 a1 a2 a3 a4 a5 a6 a7 : Value} {tl : List Value} {w : Value} {x : Int32} (hd : decode S.1.1 pc = .ok (.istore 8, 2)) (hp : a7.category = 1) (hn : 8 < S.1.2.2.2.1) (k : Wx S n (pc + 2) (a0 :: a1 :: a2 :: a3 :: a4 :: a5 :: a6 :: a7 :: .int x :: tl) st σ) : Wx S n pc (a0 :: a1 :: a2 :: a3 :: a4 :: a5 :: a6 :: a7 :: w :: tl) (.int x :: st) σ := by
  intro p l e R s m args below meth c G H locs ls C hn0 hH hl
  exact lv_istore C.1 C.2.1 hd (lvx_has hl) hn rfl (fun ls' hl' => k p l e R s m args below meth c G H locs ls' C hn0 hH (lvx_set1 (i := 8) (w := .int x) hl (Or.inr ⟨7, a7, rfl, rfl, hp⟩) hl'))
theorem Wx_lstore8 {S : Sx} {n pc : Nat} {st : List Value} {σ : Hp} {a0 a1 a2 a3 a4 a5 a6 a7 : Value} {tl : List Value} {w w2 : Value} {x : Int64} (hd : decode S.1.1 pc = .ok (.lstore 8, 2)) (hp : a7.category = 1) (hn : 9 < S.1.2.2.2.1) (k : Wx S n (pc + 2) (a0 :: a1 :: a2 :: a3 :: a4 :: a5 :: a6 :: a7 :: .long x :: .retAddr 0 :: tl) st σ) : Wx S n pc (a0 :: a1 :: a2 :: a3 :: a4 :: a5 :: a6 :: a7 :: w :: w2 :: tl) (.long x :: st) σ := by
  intro p l e R s m args below meth c G H locs ls C hn0 hH hl
  exact lv_lstore C.1 C.2.1 hd (lvx_has hl) hn rfl (fun ls' hl' => k p l e R s m args below meth c G H locs ls' C hn0 hH (lvx_set2 (i := 8) (w := .long x) hl (Or.inr ⟨7, a7, rfl, rfl, hp⟩) hl'))
theorem Wx_istore9 {S : Sx} {n pc : Nat} {st : List Value} {σ : Hp} {a0 a1 a2 a3 a4 a5 a6 a7 a8 : Value} {tl : List Value} {w : Value} {x : Int32} (hd : decode S.1.1 pc = .ok (.istore 9, 2)) (hp : a8.category = 1) (hn : 9 < S.1.2.2.2.1) (k : Wx S n (pc + 2) (a0 :: a1 :: a2 :: a3 :: a4 :: a5 :: a6 :: a7 :: a8 :: .int x :: tl) st σ) : Wx S n pc (a0 :: a1 :: a2 :: a3 :: a4 :: a5 :: a6 :: a7 :: a8 :: w :: tl) (.int x :: st) σ := by
  intro p l e R s m args below meth c G H locs ls C hn0 hH hl
  exact lv_istore C.1 C.2.1 hd (lvx_has hl) hn rfl (fun ls' hl' => k p l e R s m args below meth c G H locs ls' C hn0 hH (lvx_set1 (i := 9) (w := .int x) hl (Or.inr ⟨8, a8, rfl, rfl, hp⟩) hl'))
theorem Wx_lstore9 {S : Sx} {n pc : Nat} {st : List Value} {σ : Hp} {a0 a1 a2 a3 a4 a5 a6 a7 a8 : Value} {tl : List Value} {w w2 : Value} {x : Int64} (hd : decode S.1.1 pc = .ok (.lstore 9, 2)) (hp : a8.category = 1) (hn : 10 < S.1.2.2.2.1) (k : Wx S n (pc + 2) (a0 :: a1 :: a2 :: a3 :: a4 :: a5 :: a6 :: a7 :: a8 :: .long x :: .retAddr 0 :: tl) st σ) : Wx S n pc (a0 :: a1 :: a2 :: a3 :: a4 :: a5 :: a6 :: a7 :: a8 :: w :: w2 :: tl) (.long x :: st) σ := by
  intro p l e R s m args below meth c G H locs ls C hn0 hH hl
  exact lv_lstore C.1 C.2.1 hd (lvx_has hl) hn rfl (fun ls' hl' => k p l e R s m args below meth c G H locs ls' C hn0 hH (lvx_set2 (i := 9) (w := .long x) hl (Or.inr ⟨8, a8, rfl, rfl, hp⟩) hl'))
theorem Wx_iinc0 {S : Sx} {n pc : Nat} {st : List Value} {σ : Hp} {tl : List Value} {x : Int32} {y : Int} (hd : decode S.1.1 pc = .ok (.iinc 0 y, 3)) (hn : 0 < S.1.2.2.2.1) (k : Wx S n (pc + 3) (.int (x + Int32.ofInt y) :: tl) st σ) : Wx S n pc (.int x :: tl) st σ := by
  intro p l e R s m args below meth c G H locs ls C hn0 hH hl
  obtain ⟨q, hq⟩ := lvx_ix hl (i := 0) (v := .int x) rfl rfl
  exact lv_iinc C.1 C.2.1 hd (lvx_has hl) hq rfl hn rfl (fun ls' hl' => k p l e R s m args below meth c G H locs ls' C hn0 hH (lvx_set1 (i := 0) (w := .int (x + Int32.ofInt y)) hl (Or.inl rfl) hl'))
theorem Wx_iinc1 {S : Sx} {n pc : Nat} {st : List Value} {σ : Hp} {a0 : Value} {tl : List Value} {x : Int32} {y : Int} (hd : decode S.1.1 pc = .ok (.iinc 1 y, 3)) (hp : a0.category = 1) (hn : 1 < S.1.2.2.2.1) (k : Wx S n (pc + 3) (a0 :: .int (x + Int32.ofInt y) :: tl) st σ) : Wx S n pc (a0 :: .int x :: tl) st σ := by
  intro p l e R s m args below meth c G H locs ls C hn0 hH hl
  obtain ⟨q, hq⟩ := lvx_ix hl (i := 1) (v := .int x) rfl rfl
  exact lv_iinc C.1 C.2.1 hd (lvx_has hl) hq rfl hn rfl (fun ls' hl' => k p l e R s m args below meth c G H locs ls' C hn0 hH (lvx_set1 (i := 1) (w := .int (x + Int32.ofInt y)) hl (Or.inr ⟨0, a0, rfl, rfl, hp⟩) hl'))
theorem Wx_iinc2 {S : Sx} {n pc : Nat} {st : List Value} {σ : Hp} {a0 a1 : Value} {tl : List Value} {x : Int32} {y : Int} (hd : decode S.1.1 pc = .ok (.iinc 2 y, 3)) (hp : a1.category = 1) (hn : 2 < S.1.2.2.2.1) (k : Wx S n (pc + 3) (a0 :: a1 :: .int (x + Int32.ofInt y) :: tl) st σ) : Wx S n pc (a0 :: a1 :: .int x :: tl) st σ := by
  intro p l e R s m args below meth c G H locs ls C hn0 hH hl
  obtain ⟨q, hq⟩ := lvx_ix hl (i := 2) (v := .int x) rfl rfl
  exact lv_iinc C.1 C.2.1 hd (lvx_has hl) hq rfl hn rfl (fun ls' hl' => k p l e R s m args below meth c G H locs ls' C hn0 hH (lvx_set1 (i := 2) (w := .int (x + Int32.ofInt y)) hl (Or.inr ⟨1, a1, rfl, rfl, hp⟩) hl'))
theorem Wx_iinc3 {S : Sx} {n pc : Nat} {st : List Value} {σ : Hp} {a0 a1 a2 : Value} {tl : List Value} {x : Int32} {y : Int} (hd : decode S.1.1 pc = .ok (.iinc 3 y, 3)) (hp : a2.category = 1) (hn : 3 < S.1.2.2.2.1) (k : Wx S n (pc + 3) (a0 :: a1 :: a2 :: .int (x + Int32.ofInt y) :: tl) st σ) : Wx S n pc (a0 :: a1 :: a2 :: .int x :: tl) st σ := by
  intro p l e R s m args below meth c G H locs ls C hn0 hH hl
  obtain ⟨q, hq⟩ := lvx_ix hl (i := 3) (v := .int x) rfl rfl
  exact lv_iinc C.1 C.2.1 hd (lvx_has hl) hq rfl hn rfl (fun ls' hl' => k p l e R s m args below meth c G H locs ls' C hn0 hH (lvx_set1 (i := 3) (w := .int (x + Int32.ofInt y)) hl (Or.inr ⟨2, a2, rfl, rfl, hp⟩) hl'))
theorem Wx_iinc4 {S : Sx} {n pc : Nat} {st : List Value} {σ : Hp} {a0 a1 a2 a3 : Value} {tl : List Value} {x : Int32} {y : Int} (hd : decode S.1.1 pc = .ok (.iinc 4 y, 3)) (hp : a3.category = 1) (hn : 4 < S.1.2.2.2.1) (k : Wx S n (pc + 3) (a0 :: a1 :: a2 :: a3 :: .int (x + Int32.ofInt y) :: tl) st σ) : Wx S n pc (a0 :: a1 :: a2 :: a3 :: .int x :: tl) st σ := by
  intro p l e R s m args below meth c G H locs ls C hn0 hH hl
  obtain ⟨q, hq⟩ := lvx_ix hl (i := 4) (v := .int x) rfl rfl
  exact lv_iinc C.1 C.2.1 hd (lvx_has hl) hq rfl hn rfl (fun ls' hl' => k p l e R s m args below meth c G H locs ls' C hn0 hH (lvx_set1 (i := 4) (w := .int (x + Int32.ofInt y)) hl (Or.inr ⟨3, a3, rfl, rfl, hp⟩) hl'))
theorem Wx_iinc5 {S : Sx} {n pc : Nat} {st : List Value} {σ : Hp} {a0 a1 a2 a3 a4 : Value} {tl : List Value} {x : Int32} {y : Int} (hd : decode S.1.1 pc = .ok (.iinc 5 y, 3)) (hp : a4.category = 1) (hn : 5 < S.1.2.2.2.1) (k : Wx S n (pc + 3) (a0 :: a1 :: a2 :: a3 :: a4 :: .int (x + Int32.ofInt y) :: tl) st σ) : Wx S n pc (a0 :: a1 :: a2 :: a3 :: a4 :: .int x :: tl) st σ := by
  intro p l e R s m args below meth c G H locs ls C hn0 hH hl
  obtain ⟨q, hq⟩ := lvx_ix hl (i := 5) (v := .int x) rfl rfl
  exact lv_iinc C.1 C.2.1 hd (lvx_has hl) hq rfl hn rfl (fun ls' hl' => k p l e R s m args below meth c G H locs ls' C hn0 hH (lvx_set1 (i := 5) (w := .int (x + Int32.ofInt y)) hl (Or.inr ⟨4, a4, rfl, rfl, hp⟩) hl'))
theorem Wx_iinc6 {S : Sx} {n pc : Nat} {st : List Value} {σ : Hp} {a0 a1 a2 a3 a4 a5 : Value} {tl : List Value} {x : Int32} {y : Int} (hd : decode S.1.1 pc = .ok (.iinc 6 y, 3)) (hp : a5.category = 1) (hn : 6 < S.1.2.2.2.1) (k : Wx S n (pc + 3) (a0 :: a1 :: a2 :: a3 :: a4 :: a5 :: .int (x + Int32.ofInt y) :: tl) st σ) : Wx S n pc (a0 :: a1 :: a2 :: a3 :: a4 :: a5 :: .int x :: tl) st σ := by
  intro p l e R s m args below meth c G H locs ls C hn0 hH hl
  obtain ⟨q, hq⟩ := lvx_ix hl (i := 6) (v := .int x) rfl rfl
  exact lv_iinc C.1 C.2.1 hd (lvx_has hl) hq rfl hn rfl (fun ls' hl' => k p l e R s m args below meth c G H locs ls' C hn0 hH (lvx_set1 (i := 6) (w := .int (x + Int32.ofInt y)) hl (Or.inr ⟨5, a5, rfl, rfl, hp⟩) hl'))
theorem Wx_iinc7 {S : Sx} {n pc : Nat} {st : List Value} {σ : Hp} {a0 a1 a2 a3 a4 a5 a6 : Value} {tl : List Value} {x : Int32} {y : Int} (hd : decode S.1.1 pc = .ok (.iinc 7 y, 3)) (hp : a6.category = 1) (hn : 7 < S.1.2.2.2.1) (k : Wx S n (pc + 3) (a0 :: a1 :: a2 :: a3 :: a4 :: a5 :: a6 :: .int (x + Int32.ofInt y) :: tl) st σ) : Wx S n pc (a0 :: a1 :: a2 :: a3 :: a4 :: a5 :: a6 :: .int x :: tl) st σ := by
  intro p l e R s m args below meth c G H locs ls C hn0 hH hl
  obtain ⟨q, hq⟩ := lvx_ix hl (i := 7) (v := .int x) rfl rfl
  exact lv_iinc C.1 C.2.1 hd (lvx_has hl) hq rfl hn rfl (fun ls' hl' => k p l e R s m args below meth c G H locs ls' C hn0 hH (lvx_set1 (i := 7) (w := .int (x + Int32.ofInt y)) hl (Or.inr ⟨6, a6, rfl, rfl, hp⟩) hl'))
theorem Wx_iinc8 {S : Sx} {n pc : Nat} {st : List Value} {σ : Hp} {a0 a1 a2 a3 a4 a5 a6 a7 : Value} {tl : List Value} {x : Int32} {y : Int} (hd : decode S.1.1 pc = .ok (.iinc 8 y, 3)) (hp : a7.category = 1) (hn : 8 < S.1.2.2.2.1) (k : Wx S n (pc + 3) (a0 :: a1 :: a2 :: a3 :: a4 :: a5 :: a6 :: a7 :: .int (x + Int32.ofInt y) :: tl) st σ) : Wx S n pc (a0 :: a1 :: a2 :: a3 :: a4 :: a5 :: a6 :: a7 :: .int x :: tl) st σ := by
  intro p l e R s m args below meth c G H locs ls C hn0 hH hl
  obtain ⟨q, hq⟩ := lvx_ix hl (i := 8) (v := .int x) rfl rfl
  exact lv_iinc C.1 C.2.1 hd (lvx_has hl) hq rfl hn rfl (fun ls' hl' => k p l e R s m args below meth c G H locs ls' C hn0 hH (lvx_set1 (i := 8) (w := .int (x + Int32.ofInt y)) hl (Or.inr ⟨7, a7, rfl, rfl, hp⟩) hl'))
theorem Wx_iinc9 {S : Sx} {n pc : Nat} {st : List Value} {σ : Hp} {a0 a1 a2 a3 a4 a5 a6 a7 a8 : Value} {tl : List Value} {x : Int32} {y : Int} (hd : decode S.1.1 pc = .ok (.iinc 9 y, 3)) (hp : a8.category = 1) (hn : 9 < S.1.2.2.2.1) (k : Wx S n (pc + 3) (a0 :: a1 :: a2 :: a3 :: a4 :: a5 :: a6 :: a7 :: a8 :: .int (x + Int32.ofInt y) :: tl) st σ) : Wx S n pc (a0 :: a1 :: a2 :: a3 :: a4 :: a5 :: a6 :: a7 :: a8 :: .int x :: tl) st σ := by
  intro p l e R s m args below meth c G H locs ls C hn0 hH hl
  obtain ⟨q, hq⟩ := lvx_ix hl (i := 9) (v := .int x) rfl rfl
  exact lv_iinc C.1 C.2.1 hd (lvx_has hl) hq rfl hn rfl (fun ls' hl' => k p l e R s m args below meth c G H locs ls' C hn0 hH (lvx_set1 (i := 9) (w := .int (x + Int32.ofInt y)) hl (Or.inr ⟨8, a8, rfl, rfl, hp⟩) hl'))
theorem Wx_if_eq {S : Sx} {n pc : Nat} {lv st : List Value} {σ : Hp} {x : Int32} {off : Int} (tgt : Nat) (hd : decode S.1.1 pc = .ok (.ifCond .eq off, 3)) (ht : (pc : Int) + off = (tgt : Int)) (kt : x = 0 → Wx S n tgt lv st σ) (kf : ¬ (x = 0) → Wx S n (pc + 3) lv st σ) : Wx S n pc lv (.int x :: st) σ := by
  intro p l e R s m args below meth c G H locs ls C hn hH hl
  exact lv_if_eq C.1 C.2.1 hd ht (fun h => kt (by first | exact h | exact (by simpa using h)) p l e R s m args below meth c G H locs ls C hn hH hl) (fun h => kf (by first | exact h | exact (by simpa using h)) p l e R s m args below meth c G H locs ls C hn hH hl)
theorem Wx_icmp_eq {S : Sx} {n pc : Nat} {lv st : List Value} {σ : Hp} {x y : Int32} {off : Int} (tgt : Nat) (hd : decode S.1.1 pc = .ok (.if_icmp .eq off, 3)) (ht : (pc : Int) + off = (tgt : Int)) (kt : x = y → Wx S n tgt lv st σ) (kf : ¬ (x = y) → Wx S n (pc + 3) lv st σ) : Wx S n pc lv (.int y :: .int x :: st) σ := by
  intro p l e R s m args below meth c G H locs ls C hn hH hl
  exact lv_icmp_eq C.1 C.2.1 hd ht (fun h => kt (by first | exact h | exact (by simpa using h)) p l e R s m args below meth c G H locs ls C hn hH hl) (fun h => kf (by first | exact h | exact (by simpa using h)) p l e R s m args below meth c G H locs ls C hn hH hl)
theorem Wx_if_ne {S : Sx} {n pc : Nat} {lv st : List Value} {σ : Hp} {x : Int32} {off : Int} (tgt : Nat) (hd : decode S.1.1 pc = .ok (.ifCond .ne off, 3)) (ht : (pc : Int) + off = (tgt : Int)) (kt : ¬ x = 0 → Wx S n tgt lv st σ) (kf : ¬ (¬ x = 0) → Wx S n (pc + 3) lv st σ) : Wx S n pc lv (.int x :: st) σ := by
  intro p l e R s m args below meth c G H locs ls C hn hH hl
  exact lv_if_ne C.1 C.2.1 hd ht (fun h => kt (by first | exact h | exact (by simpa using h)) p l e R s m args below meth c G H locs ls C hn hH hl) (fun h => kf (by first | exact h | exact (by simpa using h)) p l e R s m args below meth c G H locs ls C hn hH hl)
theorem Wx_icmp_ne {S : Sx} {n pc : Nat} {lv st : List Value} {σ : Hp} {x y : Int32} {off : Int} (tgt : Nat) (hd : decode S.1.1 pc = .ok (.if_icmp .ne off, 3)) (ht : (pc : Int) + off = (tgt : Int)) (kt : ¬ x = y → Wx S n tgt lv st σ) (kf : ¬ (¬ x = y) → Wx S n (pc + 3) lv st σ) : Wx S n pc lv (.int y :: .int x :: st) σ := by
  intro p l e R s m args below meth c G H locs ls C hn hH hl
  exact lv_icmp_ne C.1 C.2.1 hd ht (fun h => kt (by first | exact h | exact (by simpa using h)) p l e R s m args below meth c G H locs ls C hn hH hl) (fun h => kf (by first | exact h | exact (by simpa using h)) p l e R s m args below meth c G H locs ls C hn hH hl)
theorem Wx_if_lt {S : Sx} {n pc : Nat} {lv st : List Value} {σ : Hp} {x : Int32} {off : Int} (tgt : Nat) (hd : decode S.1.1 pc = .ok (.ifCond .lt off, 3)) (ht : (pc : Int) + off = (tgt : Int)) (kt : x < 0 → Wx S n tgt lv st σ) (kf : ¬ (x < 0) → Wx S n (pc + 3) lv st σ) : Wx S n pc lv (.int x :: st) σ := by
  intro p l e R s m args below meth c G H locs ls C hn hH hl
  exact lv_if_lt C.1 C.2.1 hd ht (fun h => kt (by first | exact h | exact (by simpa using h)) p l e R s m args below meth c G H locs ls C hn hH hl) (fun h => kf (by first | exact h | exact (by simpa using h)) p l e R s m args below meth c G H locs ls C hn hH hl)
theorem Wx_icmp_lt {S : Sx} {n pc : Nat} {lv st : List Value} {σ : Hp} {x y : Int32} {off : Int} (tgt : Nat) (hd : decode S.1.1 pc = .ok (.if_icmp .lt off, 3)) (ht : (pc : Int) + off = (tgt : Int)) (kt : x < y → Wx S n tgt lv st σ) (kf : ¬ (x < y) → Wx S n (pc + 3) lv st σ) : Wx S n pc lv (.int y :: .int x :: st) σ := by
  intro p l e R s m args below meth c G H locs ls C hn hH hl
  exact lv_icmp_lt C.1 C.2.1 hd ht (fun h => kt (by first | exact h | exact (by simpa using h)) p l e R s m args below meth c G H locs ls C hn hH hl) (fun h => kf (by first | exact h | exact (by simpa using h)) p l e R s m args below meth c G H locs ls C hn hH hl)
theorem Wx_if_ge {S : Sx} {n pc : Nat} {lv st : List Value} {σ : Hp} {x : Int32} {off : Int} (tgt : Nat) (hd : decode S.1.1 pc = .ok (.ifCond .ge off, 3)) (ht : (pc : Int) + off = (tgt : Int)) (kt : 0 ≤ x → Wx S n tgt lv st σ) (kf : ¬ (0 ≤ x) → Wx S n (pc + 3) lv st σ) : Wx S n pc lv (.int x :: st) σ := by
  intro p l e R s m args below meth c G H locs ls C hn hH hl
  exact lv_if_ge C.1 C.2.1 hd ht (fun h => kt (by first | exact h | exact (by simpa using h)) p l e R s m args below meth c G H locs ls C hn hH hl) (fun h => kf (by first | exact h | exact (by simpa using h)) p l e R s m args below meth c G H locs ls C hn hH hl)
theorem Wx_icmp_ge {S : Sx} {n pc : Nat} {lv st : List Value} {σ : Hp} {x y : Int32} {off : Int} (tgt : Nat) (hd : decode S.1.1 pc = .ok (.if_icmp .ge off, 3)) (ht : (pc : Int) + off = (tgt : Int)) (kt : y ≤ x → Wx S n tgt lv st σ) (kf : ¬ (y ≤ x) → Wx S n (pc + 3) lv st σ) : Wx S n pc lv (.int y :: .int x :: st) σ := by
  intro p l e R s m args below meth c G H locs ls C hn hH hl
  exact lv_icmp_ge C.1 C.2.1 hd ht (fun h => kt (by first | exact h | exact (by simpa using h)) p l e R s m args below meth c G H locs ls C hn hH hl) (fun h => kf (by first | exact h | exact (by simpa using h)) p l e R s m args below meth c G H locs ls C hn hH hl)
theorem Wx_if_gt {S : Sx} {n pc : Nat} {lv st : List Value} {σ : Hp} {x : Int32} {off : Int} (tgt : Nat) (hd : decode S.1.1 pc = .ok (.ifCond .gt off, 3)) (ht : (pc : Int) + off = (tgt : Int)) (kt : 0 < x → Wx S n tgt lv st σ) (kf : ¬ (0 < x) → Wx S n (pc + 3) lv st σ) : Wx S n pc lv (.int x :: st) σ := by
  intro p l e R s m args below meth c G H locs ls C hn hH hl
  exact lv_if_gt C.1 C.2.1 hd ht (fun h => kt (by first | exact h | exact (by simpa using h)) p l e R s m args below meth c G H locs ls C hn hH hl) (fun h => kf (by first | exact h | exact (by simpa using h)) p l e R s m args below meth c G H locs ls C hn hH hl)
theorem Wx_icmp_gt {S : Sx} {n pc : Nat} {lv st : List Value} {σ : Hp} {x y : Int32} {off : Int} (tgt : Nat) (hd : decode S.1.1 pc = .ok (.if_icmp .gt off, 3)) (ht : (pc : Int) + off = (tgt : Int)) (kt : y < x → Wx S n tgt lv st σ) (kf : ¬ (y < x) → Wx S n (pc + 3) lv st σ) : Wx S n pc lv (.int y :: .int x :: st) σ := by
  intro p l e R s m args below meth c G H locs ls C hn hH hl
  exact lv_icmp_gt C.1 C.2.1 hd ht (fun h => kt (by first | exact h | exact (by simpa using h)) p l e R s m args below meth c G H locs ls C hn hH hl) (fun h => kf (by first | exact h | exact (by simpa using h)) p l e R s m args below meth c G H locs ls C hn hH hl)
theorem Wx_if_le {S : Sx} {n pc : Nat} {lv st : List Value} {σ : Hp} {x : Int32} {off : Int} (tgt : Nat) (hd : decode S.1.1 pc = .ok (.ifCond .le off, 3)) (ht : (pc : Int) + off = (tgt : Int)) (kt : x ≤ 0 → Wx S n tgt lv st σ) (kf : ¬ (x ≤ 0) → Wx S n (pc + 3) lv st σ) : Wx S n pc lv (.int x :: st) σ := by
  intro p l e R s m args below meth c G H locs ls C hn hH hl
  exact lv_if_le C.1 C.2.1 hd ht (fun h => kt (by first | exact h | exact (by simpa using h)) p l e R s m args below meth c G H locs ls C hn hH hl) (fun h => kf (by first | exact h | exact (by simpa using h)) p l e R s m args below meth c G H locs ls C hn hH hl)
theorem Wx_icmp_le {S : Sx} {n pc : Nat} {lv st : List Value} {σ : Hp} {x y : Int32} {off : Int} (tgt : Nat) (hd : decode S.1.1 pc = .ok (.if_icmp .le off, 3)) (ht : (pc : Int) + off = (tgt : Int)) (kt : x ≤ y → Wx S n tgt lv st σ) (kf : ¬ (x ≤ y) → Wx S n (pc + 3) lv st σ) : Wx S n pc lv (.int y :: .int x :: st) σ := by
  intro p l e R s m args below meth c G H locs ls C hn hH hl
  exact lv_icmp_le C.1 C.2.1 hd ht (fun h => kt (by first | exact h | exact (by simpa using h)) p l e R s m args below meth c G H locs ls C hn hH hl) (fun h => kf (by first | exact h | exact (by simpa using h)) p l e R s m args below meth c G H locs ls C hn hH hl)
theorem Wx_goto {S : Sx} {n pc : Nat} {lv st : List Value} {σ : Hp} {off : Int} (tgt : Nat) (hd : decode S.1.1 pc = .ok (.goto off, 3)) (ht : (pc : Int) + off = (tgt : Int)) (k : Wx S n tgt lv st σ) : Wx S n pc lv st σ := by
  intro p l e R s m args below meth c G H locs ls C hn hH hl
  exact lv_goto C.1 C.2.1 hd ht (k p l e R s m args below meth c G H locs ls C hn hH hl)
theorem Wx_tableOut {S : Sx} {n pc : Nat} {lv st : List Value} {σ : Hp} {dflt lo hi : Int} {offs : Array Int} {len : Nat} {x : Int32} (tgt : Nat) (hd : decode S.1.1 pc = .ok (.tableswitch dflt lo hi offs, len)) (h : x.toInt < lo ∨ hi < x.toInt) (ht : (pc : Int) + dflt = (tgt : Int)) (k : Wx S n tgt lv st σ) : Wx S n pc lv (.int x :: st) σ := by
  intro p l e R s m args below meth c G H locs ls C hn hH hl
  exact lv_tableOut C.1 C.2.1 hd h ht (k p l e R s m args below meth c G H locs ls C hn hH hl)
theorem Wx_tableIn {S : Sx} {n pc : Nat} {lv st : List Value} {σ : Hp} {dflt lo hi : Int} {offs : Array Int} {len : Nat} {x : Int32} {off : Int} (tgt : Nat) (hd : decode S.1.1 pc = .ok (.tableswitch dflt lo hi offs, len)) (h1 : ¬ x.toInt < lo) (h2 : ¬ hi < x.toInt) (ho : offs[(x.toInt - lo).toNat]? = some off) (ht : (pc : Int) + off = (tgt : Int)) (k : Wx S n tgt lv st σ) : Wx S n pc lv (.int x :: st) σ := by
  intro p l e R s m args below meth c G H locs ls C hn hH hl
  exact lv_tableIn C.1 C.2.1 hd h1 h2 ho ht (k p l e R s m args below meth c G H locs ls C hn hH hl)
theorem Wx_lookup {S : Sx} {n pc : Nat} {lv st : List Value} {σ : Hp} {dflt : Int} {ps : Array (Int × Int)} {len : Nat} {x : Int32} {off : Int} (tgt : Nat) (hd : decode S.1.1 pc = .ok (.lookupswitch dflt ps, len)) (hp : (ps.toList.zip (ps.toList.drop 1)).all (fun (a, next) => a.1 < next.1) = true) (ho : Op.lookupswitch.offset ps.toList dflt x.toInt = off) (ht : (pc : Int) + off = (tgt : Int)) (k : Wx S n tgt lv st σ) : Wx S n pc lv (.int x :: st) σ := by
  intro p l e R s m args below meth c G H locs ls C hn hH hl
  exact lv_lookup C.1 C.2.1 hd hp ho ht (k p l e R s m args below meth c G H locs ls C hn hH hl)
/-- the ends of a method -/
theorem Wx_end {S : Sx} {pc : Nat} {lv : List Value} {σ : Hp} {v : Option Value} (hQ : S.2.2.2.2.2.1 (.inl v) σ) {st : List Value}
    (h : ∀ (p : Program) (l : Launch) (e : Env) (R : Room) (s : State) (m : MethodId) (args : Array Value) (below : List Frame) (meth : Method) (c : Code) (G : Gx) (H : Heap) (locs : List Loc) (ls : Array Slot) (cells slots : Nat) (Qc : Array Value → State → Outcome → State → Prop), CX S p R s m args meth c G →
      (∀ t : State, t.heap = H → s.WarmedH t.vm → Qc args s (.returned (v.map (cv G.2.2))) t) → (∀ q ∈ locs, G.2.2 ≤ q.base) → W p l e R s m args below meth c H locs cells slots (MQ below Qc args s cells slots (fun q => G.2.2 ≤ q)) (F0 m pc ls (st.map (cv G.2.2)))) : Wx S S.2.2.2.1 pc lv st σ := by
  intro p l e R s m args below meth c G H locs ls C hn hH hl
  refine W.mono (fun t q => MZ_of t q) (h p l e R s m args below meth c G H locs ls _ _ _ C (fun t ht _ => ⟨⟨.inl v, σ, hQ, rfl, by rw [ht]; exact hH.1⟩, hH.2.F ht⟩) hH.2.2.2)
theorem Wx_ireturn {S : Sx} {n pc : Nat} {lv : List Value} {σ : Hp} {x : Int32} (hd : decode S.1.1 pc = .ok (.ireturn, 1)) (hr : S.1.2.2.1 = some .int) (hn : n = S.2.2.2.1) (hQ : S.2.2.2.2.2.1 (.inl (some (.int x))) σ) : Wx S n pc lv [.int x] σ := by
  subst hn
  exact Wx_end hQ (st := [.int x]) fun p l e R s m args below meth c G H locs ls cells slots Qc C hq hf => W.iret C.1 C.2.1 (C.2.2.1.trans hr) hq hf hd C.2.2.2.2.2.2.1
theorem Wx_zreturn {S : Sx} {n pc : Nat} {lv : List Value} {σ : Hp} {x : Int32} (hd : decode S.1.1 pc = .ok (.ireturn, 1)) (hr : S.1.2.2.1 = some .boolean) (hx : x = 0 ∨ x = 1) (hn : n = S.2.2.2.1) (hQ : S.2.2.2.2.2.1 (.inl (some (.int x))) σ) : Wx S n pc lv [.int x] σ := by
  subst hn
  exact Wx_end hQ (st := [.int x]) fun p l e R s m args below meth c G H locs ls cells slots Qc C hq hf => W.zret C.1 C.2.1 (C.2.2.1.trans hr) (by rcases hx with rfl | rfl <;> decide) hq hf hd C.2.2.2.2.2.2.1
theorem Wx_lreturn {S : Sx} {n pc : Nat} {lv : List Value} {σ : Hp} {x : Int64} (hd : decode S.1.1 pc = .ok (.lreturn, 1)) (hr : S.1.2.2.1 = some .long) (hn : n = S.2.2.2.1) (hQ : S.2.2.2.2.2.1 (.inl (some (.long x))) σ) : Wx S n pc lv [.long x] σ := by
  subst hn
  exact Wx_end hQ (st := [.long x]) fun p l e R s m args below meth c G H locs ls cells slots Qc C hq hf => W.lret C.1 C.2.1 (C.2.2.1.trans hr) hq hf hd C.2.2.2.2.2.2.1
theorem Wx_return {S : Sx} {n pc : Nat} {lv : List Value} {σ : Hp} (hd : decode S.1.1 pc = .ok (.return_, 1)) (hr : S.1.2.2.1 = none) (hn : n = S.2.2.2.1) (hQ : S.2.2.2.2.2.1 (.inl none) σ) : Wx S n pc lv [] σ := by
  subst hn
  exact Wx_end hQ (st := []) fun p l e R s m args below meth c G H locs ls cells slots Qc C hq hf => W.vret C.1 C.2.1 (C.2.2.1.trans hr) hq hf hd C.2.2.2.2.2.2.1
/-- the locals at the entry -/
def lvD : List Value → List Value
  | [] => []
  | v :: vs => if v.category = 2 then v :: .retAddr 0 :: lvD vs else v :: lvD vs
def lvE (av : List Value) (nL : Nat) : List Value := lvD av ++ List.replicate (nL - (lvD av).length) (.retAddr 0)
theorem lvD_len (av : List Value) (B : Nat) : (lg_sl (av.map (cv B))).length = (lvD av).length := by
  induction av with
  | nil => rfl
  | cons v t ih =>
    by_cases h : v.category = 2
    · simp only [lg_sl, List.map_cons, List.flatMap_cons, cv_cat, h, if_true, lvD, List.length_append, List.length_cons, List.length_nil] at ih ⊢
      omega
    · simp only [lg_sl, List.map_cons, List.flatMap_cons, cv_cat, h, if_false, lvD, List.length_append, List.length_cons, List.length_nil] at ih ⊢
      omega
theorem lvD_args (B : Nat) : ∀ (av : List Value) (o i : Nat) (v : Value), (lvD av)[i]? = some v → kn v = true → (o + i, cv B v) ∈ lv_args o (av.map (cv B))
  | [], o, i, v, h, _ => by simp [lvD] at h
  | a :: t, o, i, v, h, hk => by
    by_cases hc : a.category = 2
    · simp only [lvD, hc, if_true] at h
      simp only [List.map_cons, lv_args, cv_cat, hc, if_true]
      match i, h with
      | 0, h =>
        simp only [List.getElem?_cons_zero] at h
        cases h
        exact List.mem_cons_self
      | 1, h =>
        simp only [List.getElem?_cons_succ, List.getElem?_cons_zero] at h
        cases h
        cases hk
      | i + 2, h =>
        simp only [List.getElem?_cons_succ] at h
        have := lvD_args B t (o + 2) i v h hk
        refine List.mem_cons_of_mem _ ?_
        rw [show o + (i + 2) = o + 2 + i by omega]
        exact this
    · simp only [lvD, hc, if_false] at h
      simp only [List.map_cons, lv_args, cv_cat, hc, if_false]
      match i, h with
      | 0, h =>
        simp only [List.getElem?_cons_zero] at h
        cases h
        exact List.mem_cons_self
      | i + 1, h =>
        simp only [List.getElem?_cons_succ] at h
        have := lvD_args B t (o + 1) i v h hk
        refine List.mem_cons_of_mem _ ?_
        rw [show o + (i + 1) = o + 1 + i by omega]
        exact this
theorem lvx_entry {B nL : Nat} {av : List Value} (h : (lvD av).length ≤ nL) : lvx B (lvE av nL) nL ((lg_sl (av.map (cv B)) ++ List.replicate (nL - (lg_sl (av.map (cv B))).length) Slot.unset).toArray) := by
  have h0 := lv_entry (av.map (cv B)) (n := nL) (by rw [lvD_len]; exact h)
  refine ⟨h0.1, h0.2.1, fun i v hi hk => ?_⟩
  by_cases hlt : i < (lvD av).length
  · rw [lvE, List.getElem?_append_left hlt] at hi
    have := lvD_args B av 0 i v hi hk
    rw [Nat.zero_add] at this
    exact h0.2.2 _ this
  · rw [lvE, List.getElem?_append_right (by omega), List.getElem?_replicate] at hi
    split at hi
    · cases hi
      cases hk
    · cases hi
theorem Kt.moved {G : Gx} {u U : State} (hW : u.WarmedH U.vm) (hh : ∀ a : Nat, a < u.heap.size → ¬ G.2.2 ≤ a → U.heap[a]? = u.heap[a]?) (h : Kt G u) : Kt G U := by
  refine ⟨va_K.moved hW.alike h.1, fun w hw => ?_, (h.2.2.1.kept hh).moved hW.alike, (h.2.2.2.kept hh).moved hW.alike⟩
  have h1 := h.2.1 w hw
  have h2 := (List.mem_filter.mp hw).2
  cases w <;> first | exact va_Nw.warmF hW h1 | exact va_Nw.warmM hW h1 | cases h2
theorem Kt.same {G : Gx} {u U : State} (hv : u.vm = U.vm) (hh : U.heap = u.heap) (h : Kt G u) : Kt G U := by
  have ha : u.vm.Alike U.vm := by rw [hv]; exact Vm.Alike.refl _
  refine ⟨va_K.moved ha h.1, fun w hw => ?_, (h.2.2.1.kept (fun a _ _ => by rw [hh])).moved ha, (h.2.2.2.kept (fun a _ _ => by rw [hh])).moved ha⟩
  have h1 := h.2.1 w hw
  have h2 := (List.mem_filter.mp hw).2
  cases w <;> first | exact va_Nw.same rfl hv h1 | cases h2
/-- a contract out of the walk of its body -/
theorem Cx_of {y : MethodName} {code : ByteArray} {maxL : Nat} {ret : Option FieldType} {d n0 nF : Nat} {av lv : List Value} {σ : Hp} {Q : Oc → Hp → Prop} (own : String) (ini : Bool) (hy : plainName y.cls = true) (ho : y.cls = own) (hi : ini = true → y.name = "<init>") (hle : n0 ≤ nF)
    (hlv : lvE av maxL = lv) (hlen : (lvD av).length ≤ maxL) (body : Wx ((code, own, ret, maxL, ini), d, n0, nF, false, Q, fun _ _ => True) n0 0 lv [] σ) : Cx y code maxL ret d n0 nF av σ Q := by
  intro l G
  refine Met.ofW (cc := code) (maxL := maxL) (ret := ret) hy rfl ?_
  intro p e s m args below meth c s₁ B hml hv
  obtain ⟨rfl, hKt, hP, hsz⟩ := hv
  have hts := atoms_spec (ws := Cond.code y code maxL ret :: gw) B.pre
  have C : CX ((code, own, ret, maxL, ini), d, n0, nF, false, Q, fun _ _ => True) p { frames := d, cells := nF - n0, slots := sl nF - sl n0, locals := 30 * d } s m (av.map (cv G.2.2)).toArray meth c G :=
    ⟨B.exec, B.bytes, B.returns, hml, by rw [← ho]; exact findClass_of_methodNamed B.named, fun w hw => hts w (List.mem_cons_of_mem _ hw), B.notSynchronized, fun h => by rw [← hi h]; exact (name_of_methodNamed B.named B.method).1, ⟨Nat.le_refl _, Nat.le_refl _, Nat.le_refl _, Nat.le_refl _⟩, hKt, hsz, trivial⟩
  rw [lg_entry_eq]
  have h := body p l e { frames := d, cells := nF - n0, slots := sl nF - sl n0, locals := 30 * d } s m (av.map (cv G.2.2)).toArray below meth c G s.heap [] _ C ⟨Nat.le_refl _, hle⟩ ⟨hP, va_S.rf⟩ (by rw [← hlv]; exact lvx_entry hlen)
  have h1 : n0 - n0 = 0 := Nat.sub_self _
  have h2 : sl n0 - sl n0 = 0 := Nat.sub_self _
  dsimp only at h
  rw [h1, h2] at h
  exact W.mono (fun t q => MQ_of t q) h
